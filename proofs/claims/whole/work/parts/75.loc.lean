/-! LOCALITY: the functions of the reference look at the reference alone -/
def m_arr : List Nat := m_tab.map fun q => q.2.1
/-- two states that are alike at the reference -/
def z_M (u w : g_St) : Prop := (∀ k, k % 64 = 1 → g_I u k 1 = g_I w k 1) ∧ (∀ k, k % 64 = 1 → g_R u k 1 = g_R w k 1) ∧ ∀ a ∈ m_arr, g_ln u a = g_ln w a ∧ g_AI u a = g_AI w a ∧ g_AL u a = g_AL w a
theorem m_arr_of {q : Nat × Nat × Nat} (h : q ∈ m_tab) : q.2.1 ∈ m_arr := List.mem_map.mpr ⟨q, h, rfl⟩
theorem m_tab_1 : ∀ q ∈ m_tab, q.1 % 64 = 1 := by decide +kernel
theorem z_M.re {u : g_St} : z_M u u := ⟨fun _ _ => Eq.refl _, fun _ _ => Eq.refl _, fun _ _ => ⟨Eq.refl _, Eq.refl _, Eq.refl _⟩⟩
theorem z_M.symm {u w : g_St} (h : z_M u w) : z_M w u := ⟨fun k e => (h.1 k e).symm, fun k e => (h.2.1 k e).symm, fun a e => ⟨(h.2.2 a e).1.symm, (h.2.2 a e).2.1.symm, (h.2.2 a e).2.2.symm⟩⟩
theorem z_M.trans {u v w : g_St} (h : z_M u v) (g : z_M v w) : z_M u w := ⟨fun k e => (h.1 k e).trans (g.1 k e), fun k e => (h.2.1 k e).trans (g.2.1 k e), fun a e => ⟨(h.2.2 a e).1.trans (g.2.2 a e).1, (h.2.2 a e).2.1.trans (g.2.2 a e).2.1, (h.2.2 a e).2.2.trans (g.2.2 a e).2.2⟩⟩
theorem z_M.fx {u w : g_St} (h : z_M u w) (m : m_Fix w) : m_Fix u := fun q hq => ⟨by rw [h.2.1 q.1 (m_tab_1 q hq)]; exact (m q hq).1, by rw [(h.2.2 _ (m_arr_of hq)).1]; exact (m q hq).2⟩
theorem z_M.pI {u w : g_St} (h : z_M u w) (k : Nat) (v : Int32) : z_M (g_setI u k 1 v) (g_setI w k 1 v) := ⟨fun k' e => by rw [x_I_I, x_I_I, h.1 k' e], h.2.1, h.2.2⟩
theorem z_M.sI {u w : g_St} (h : z_M u w) (a j : Nat) (v : Int32) : z_M (g_setAI u a j v) (g_setAI w a j v) := ⟨h.1, h.2.1, fun b e => ⟨(h.2.2 b e).1, by
  funext i
  rw [x_AI_AI, x_AI_AI, (h.2.2 b e).2.1], (h.2.2 b e).2.2⟩⟩
theorem z_M.sL {u w : g_St} (h : z_M u w) (a j : Nat) (v : Int64) : z_M (g_setAL u a j v) (g_setAL w a j v) := ⟨h.1, h.2.1, fun b e => ⟨(h.2.2 b e).1, (h.2.2 b e).2.1, by
  funext i
  rw [x_AL_AL, x_AL_AL, (h.2.2 b e).2.2]⟩⟩
theorem lc_gI {α : Type} {u w : g_St} {k : Nat} {F F' : Int32 → Option α} {o : α} {Q : α → Prop} (hE : z_M u w) (hk : k % 64 = 1) (h : g_gI w k (some 1) F = some o) (kk : ∀ x, F x = some o → ∃ o', F' x = some o' ∧ Q o') : ∃ o', g_gI u k (some 1) F' = some o' ∧ Q o' := by
  rw [x_gI, hE.1 k hk]
  exact kk _ h
theorem lc_gR {α : Type} {u w : g_St} {k b : Nat} {F F' : Option Nat → Option α} {o : α} {Q : α → Prop} (e' : g_R u k 1 = some b) (e : g_R w k 1 = some b) (h : g_gR w k (some 1) F = some o) (kk : F (some b) = some o → ∃ o', F' (some b) = some o' ∧ Q o') : ∃ o', g_gR u k (some 1) F' = some o' ∧ Q o' := by
  rw [x_gR, e']
  rw [x_gR, e] at h
  exact kk h
theorem lc_aI {α : Type} {u w : g_St} {a : Nat} {i : Int32} {F F' : Int32 → Option α} {o : α} {Q : α → Prop} (hE : z_M u w) (ha : a ∈ m_arr) (h : g_aI w (some a) i F = some o) (kk : ∀ x, F x = some o → ∃ o', F' x = some o' ∧ Q o') : ∃ o', g_aI u (some a) i F' = some o' ∧ Q o' := by
  unfold g_aI at h ⊢
  simp only [] at h ⊢
  rw [(hE.2.2 a ha).1, (hE.2.2 a ha).2.1]
  split at h
  · cases h
  · rw [if_neg ‹_›]
    exact kk _ h
theorem lc_aL {α : Type} {u w : g_St} {a : Nat} {i : Int32} {F F' : Int64 → Option α} {o : α} {Q : α → Prop} (hE : z_M u w) (ha : a ∈ m_arr) (h : g_aL w (some a) i F = some o) (kk : ∀ x, F x = some o → ∃ o', F' x = some o' ∧ Q o') : ∃ o', g_aL u (some a) i F' = some o' ∧ Q o' := by
  unfold g_aL at h ⊢
  simp only [] at h ⊢
  rw [(hE.2.2 a ha).1, (hE.2.2 a ha).2.2]
  split at h
  · cases h
  · rw [if_neg ‹_›]
    exact kk _ h
theorem lc_sI {α : Type} {u w : g_St} {a : Nat} {i : Int32} {v : Int32} {F F' : g_St → Option α} {o : α} {Q : α → Prop} (hE : z_M u w) (ha : a ∈ m_arr) (h : g_sI w (some a) i v F = some o) (kk : ∀ j, F (g_setAI w a j v) = some o → ∃ o', F' (g_setAI u a j v) = some o' ∧ Q o') : ∃ o', g_sI u (some a) i v F' = some o' ∧ Q o' := by
  unfold g_sI at h ⊢
  simp only [] at h ⊢
  rw [(hE.2.2 a ha).1]
  split at h
  · cases h
  · rw [if_neg ‹_›]
    exact kk _ h
theorem lc_sZ {α : Type} {u w : g_St} {a : Nat} {i : Int32} {v : Int32} {F F' : g_St → Option α} {o : α} {Q : α → Prop} (hE : z_M u w) (ha : a ∈ m_arr) (h : g_sZ w (some a) i v F = some o) (kk : ∀ j, F (g_setAI w a j v) = some o → ∃ o', F' (g_setAI u a j v) = some o' ∧ Q o') : ∃ o', g_sZ u (some a) i v F' = some o' ∧ Q o' := by
  unfold g_sZ at h ⊢
  simp only [] at h ⊢
  rw [(hE.2.2 a ha).1]
  split at h
  · cases h
  · rw [if_neg ‹_›]
    exact kk _ h
theorem lc_sL {α : Type} {u w : g_St} {a : Nat} {i : Int32} {v : Int64} {F F' : g_St → Option α} {o : α} {Q : α → Prop} (hE : z_M u w) (ha : a ∈ m_arr) (h : g_sL w (some a) i v F = some o) (kk : ∀ j, F (g_setAL w a j v) = some o → ∃ o', F' (g_setAL u a j v) = some o' ∧ Q o') : ∃ o', g_sL u (some a) i v F' = some o' ∧ Q o' := by
  unfold g_sL at h ⊢
  simp only [] at h ⊢
  rw [(hE.2.2 a ha).1]
  split at h
  · cases h
  · rw [if_neg ‹_›]
    exact kk _ h
theorem lc_pI {α : Type} {u w : g_St} {k : Nat} {v : Int32} {F F' : g_St → Option α} {o : α} {Q : α → Prop} (h : g_pI w k (some 1) v F = some o) (kk : F (g_setI w k 1 v) = some o → ∃ o', F' (g_setI u k 1 v) = some o' ∧ Q o') : ∃ o', g_pI u k (some 1) v F' = some o' ∧ Q o' := kk h
theorem lc_pZ {α : Type} {u w : g_St} {k : Nat} {v : Int32} {F F' : g_St → Option α} {o : α} {Q : α → Prop} (h : g_pZ w k (some 1) v F = some o) (kk : F (g_setI w k 1 v) = some o → ∃ o', F' (g_setI u k 1 v) = some o' ∧ Q o') : ∃ o', g_pZ u k (some 1) v F' = some o' ∧ Q o' := by
  unfold g_pZ at h ⊢
  simp only [] at h ⊢
  split at h
  · rw [if_pos ‹_›]
    exact kk h
  · cases h
theorem lc_c {α β : Type} {X X' : Option (α × g_St)} {F F' : α → g_St → Option β} {o : β} {Q : β → Prop} (h : g_c X F = some o) (hX : ∀ q, X = some q → ∃ q', X' = some q' ∧ q'.1 = q.1 ∧ z_M q'.2 q.2) (kk : ∀ v s t, X = some (v, s) → z_M t s → F v s = some o → ∃ o', F' v t = some o' ∧ Q o') : ∃ o', g_c X' F' = some o' ∧ Q o' := by
  cases hx : X with
  | none => rw [hx] at h; cases h
  | some q =>
    obtain ⟨q', e1, e2, e3⟩ := hX q hx
    rw [e1]
    rw [hx] at h
    show ∃ o', F' q'.1 q'.2 = some o' ∧ Q o'
    rw [e2]
    exact kk q.1 q.2 q'.2 hx e3 h
theorem lc_nn {α : Type} {X : Option α} {Q : α → Prop} (h : ∃ q, X = some q ∧ Q q) : ∃ q, g_nn (some 1) X = some q ∧ Q q := h
theorem lc_if {α : Type} {c : Prop} {d d' : Decidable c} {A B A' B' : Option α} {o : α} {Q : α → Prop} (h : (@ite _ c d A B) = some o) (k1 : A = some o → ∃ o', A' = some o' ∧ Q o') (k2 : B = some o → ∃ o', B' = some o' ∧ Q o') : ∃ o', (@ite _ c d' A' B') = some o' ∧ Q o' := by
  by_cases e : c
  · rw [if_pos e] at h ⊢
    exact k1 h
  · rw [if_neg e] at h ⊢
    exact k2 h
theorem lc_some {α : Type} {v : α} {s t : g_St} {o : α × g_St} (hE : z_M t s) (h : some (v, s) = some o) : ∃ o', some (v, t) = some o' ∧ o'.1 = o.1 ∧ z_M o'.2 o.2 := by
  cases h
  exact ⟨(v, t), rfl, rfl, hE⟩
theorem lc_rZ {α : Type} {x : Int32} {F F' : Option α} {o : α} {Q : α → Prop} (h : g_rZ x F = some o) (kk : F = some o → ∃ o', F' = some o' ∧ Q o') : ∃ o', g_rZ x F' = some o' ∧ Q o' := by
  unfold g_rZ at h ⊢
  exact lc_if h kk (fun h => by cases h)
theorem lc_nz {α : Type} {x : Int32} {F F' : Option α} {o : α} {Q : α → Prop} (h : g_nz x F = some o) (kk : F = some o → ∃ o', F' = some o' ∧ Q o') : ∃ o', g_nz x F' = some o' ∧ Q o' := by
  unfold g_nz at h ⊢
  first
  | exact lc_if h kk (fun h => by cases h)
  | exact lc_if h (fun h => by cases h) kk
theorem m_setI {u : g_St} (k : Nat) (v : Int32) (h : m_Fix u) : m_Fix (g_setI u k 1 v) := h
theorem m_setAI {u : g_St} (a j : Nat) (v : Int32) (h : m_Fix u) : m_Fix (g_setAI u a j v) := h
theorem m_setAL {u : g_St} (a j : Nat) (v : Int64) (h : m_Fix u) : m_Fix (g_setAL u a j v) := h
theorem l_M_longer (y0 : Int64) (x2 : Int32) {t0 s0 : g_St} {o : Int64 × g_St} (hE : z_M t0 s0) (hm : m_Fix s0) (h : f_M_longer y0 x2 s0 = some o) : ∃ o', f_M_longer y0 x2 t0 = some o' ∧ o'.1 = o.1 ∧ z_M o'.2 o.2 := by
  unfold f_M_longer at h
  unfold f_M_longer
  refine lc_if h (fun h => ?_) (fun h => ?_)
  · exact lc_some hE h
  · exact lc_some hE h
theorem l_M_thrown  {t0 s0 : g_St} {o : Int32 × g_St} (hE : z_M t0 s0) (hm : m_Fix s0) (h : f_M_thrown (some 1) s0 = some o) : ∃ o', f_M_thrown (some 1) t0 = some o' ∧ o'.1 = o.1 ∧ z_M o'.2 o.2 := by
  unfold f_M_thrown at h
  unfold f_M_thrown
  refine lc_gI hE (by decide) h (fun i1 h => ?_)
  exact lc_some hE h
theorem l_M_table_28 (x1 : Int32) (x1s : Int32) {t0 s0 : g_St} {o : Int32 × g_St} (hE : z_M t0 s0) (hm : m_Fix s0) (h : f_M_table_28 (some 1) x1 (some 1) x1s s0 = some o) : ∃ o', f_M_table_28 (some 1) x1 (some 1) x1s t0 = some o' ∧ o'.1 = o.1 ∧ z_M o'.2 o.2 := by
  unfold f_M_table_28 at h
  unfold f_M_table_28
  refine lc_pI h (fun h => ?_)
  have hE1 := hE.pI 1 x1s
  have hm1 := m_setI 1 x1s hm
  refine lc_gI hE1 (by decide) h (fun i2 h => ?_)
  refine lc_if h (fun h => ?_) (fun h => ?_)
  · refine lc_gR ((hE1.fx hm1) _ m_k129).1 (hm1 _ m_k129).1 h (fun h => ?_)
    refine lc_gI hE1 (by decide) h (fun i4 h => ?_)
    refine lc_sI hE1 (m_arr_of m_k129) h (fun j2 h => ?_)
    have hE2 := hE1.sI 916 j2 x1
    have hm2 := m_setAI 916 j2 x1 hm1
    refine lc_gR ((hE2.fx hm2) _ m_k193).1 (hm2 _ m_k193).1 h (fun h => ?_)
    refine lc_gI hE2 (by decide) h (fun i7 h => ?_)
    refine lc_sI hE2 (m_arr_of m_k193) h (fun j3 h => ?_)
    have hE3 := hE2.sI 980 j3 0
    have hm3 := m_setAI 980 j3 0 hm2
    refine lc_gI hE3 (by decide) h (fun i9 h => ?_)
    refine lc_pI h (fun h => ?_)
    have hE4 := hE3.pI 65 (i9 + 1)
    have hm4 := m_setI 65 (i9 + 1) hm3
    refine lc_gI hE4 (by decide) h (fun i11 h => ?_)
    exact lc_some hE4 h
  · exact lc_some hE1 h
theorem l_M_table (x1 : Int32) {t0 s0 : g_St} {o : Int32 × g_St} (hE : z_M t0 s0) (hm : m_Fix s0) (h : f_M_table (some 1) x1 s0 = some o) : ∃ o', f_M_table (some 1) x1 t0 = some o' ∧ o'.1 = o.1 ∧ z_M o'.2 o.2 := by
  unfold f_M_table at h
  unfold f_M_table
  refine lc_if h (fun h => ?_) (fun h => ?_)
  · exact l_M_table_28 _ _ hE hm h
  · refine lc_if h (fun h => ?_) (fun h => ?_)
    · refine lc_gI hE (by decide) h (fun i1 h => ?_)
      refine lc_if h (fun h => ?_) (fun h => ?_)
      · exact l_M_table_28 _ _ hE hm h
      · exact l_M_table_28 _ _ hE hm h
    · exact l_M_table_28 _ _ hE hm h
theorem l_M_row_63 : ∀ (n : Nat) (x1 : Int32) (x2 : Int32) (x3 : Int32) (x4 : Int32) (x5 : Int32) (x6 : Int32) (x7 : Int32) {t0 s0 : g_St} {o : Int32 × g_St}, z_M t0 s0 → m_Fix s0 → f_M_row_63 n (some 1) x1 x2 x3 x4 x5 x6 x7 s0 = some o → ∃ o', f_M_row_63 n (some 1) x1 x2 x3 x4 x5 x6 x7 t0 = some o' ∧ o'.1 = o.1 ∧ z_M o'.2 o.2 := by
  intro n
  induction n with
  | zero =>
    intro x1 x2 x3 x4 x5 x6 x7 t0 s0 o hE hm h
    rw [f_M_row_63] at h
    cases h
  | succ n ih =>
    intro x1 x2 x3 x4 x5 x6 x7 t0 s0 o hE hm h
    rw [f_M_row_63] at h
    rw [f_M_row_63]
    refine lc_if h (fun h => ?_) (fun h => ?_)
    · refine lc_gR ((hE.fx hm) _ m_k193).1 (hm _ m_k193).1 h (fun h => ?_)
      refine lc_aI hE (m_arr_of m_k193) h (fun i2 h => ?_)
      refine lc_sI hE (m_arr_of m_k193) h (fun j1 h => ?_)
      have hE1 := hE.sI 980 j1 (i2 + 1)
      have hm1 := m_setAI 980 j1 (i2 + 1) hm
      refine lc_gR ((hE1.fx hm1) _ m_k193).1 (hm1 _ m_k193).1 h (fun h => ?_)
      refine lc_aI hE1 (m_arr_of m_k193) h (fun i5 h => ?_)
      exact lc_some hE1 h
    · refine lc_gR ((hE.fx hm) _ m_k257).1 (hm _ m_k257).1 h (fun h => ?_)
      refine lc_if h (fun h => ?_) (fun h => ?_)
      · refine lc_sL hE (m_arr_of m_k257) h (fun j2 h => ?_)
        have hE2 := hE.sL 597 j2 1099511627776
        have hm2 := m_setAL 597 j2 1099511627776 hm
        exact ih _ _ _ _ _ _ _ hE2 hm2 h
      · refine lc_if h (fun h => ?_) (fun h => ?_)
        · refine lc_sL hE (m_arr_of m_k257) h (fun j3 h => ?_)
          have hE3 := hE.sL 597 j3 x2.toInt64
          have hm3 := m_setAL 597 j3 x2.toInt64 hm
          exact ih _ _ _ _ _ _ _ hE3 hm3 h
        · refine lc_if h (fun h => ?_) (fun h => ?_)
          · refine lc_sL hE (m_arr_of m_k257) h (fun j4 h => ?_)
            have hE4 := hE.sL 597 j4 x3.toInt64
            have hm4 := m_setAL 597 j4 x3.toInt64 hm
            exact ih _ _ _ _ _ _ _ hE4 hm4 h
          · refine lc_sL hE (m_arr_of m_k257) h (fun j5 h => ?_)
            have hE5 := hE.sL 597 j5 x4.toInt64
            have hm5 := m_setAL 597 j5 x4.toInt64 hm
            exact ih _ _ _ _ _ _ _ hE5 hm5 h
theorem l_M_row_33 (x1 : Int32) (x2 : Int32) (x3 : Int32) (x4 : Int32) (x5 : Int32) (x1s : Int32) {t0 s0 : g_St} {o : Int32 × g_St} (hE : z_M t0 s0) (hm : m_Fix s0) (h : f_M_row_33 (some 1) x1 x2 x3 x4 x5 (some 1) x1s s0 = some o) : ∃ o', f_M_row_33 (some 1) x1 x2 x3 x4 x5 (some 1) x1s t0 = some o' ∧ o'.1 = o.1 ∧ z_M o'.2 o.2 := by
  unfold f_M_row_33 at h
  unfold f_M_row_33
  refine lc_pI h (fun h => ?_)
  have hE1 := hE.pI 1 x1s
  have hm1 := m_setI 1 x1s hm
  refine lc_gI hE1 (by decide) h (fun i2 h => ?_)
  refine lc_if h (fun h => ?_) (fun h => ?_)
  · refine lc_gR ((hE1.fx hm1) _ m_k193).1 (hm1 _ m_k193).1 h (fun h => ?_)
    refine lc_aI hE1 (m_arr_of m_k193) h (fun i4 h => ?_)
    exact l_M_row_63 _ _ _ _ _ _ _ _ hE1 hm1 h
  · exact lc_some hE1 h
theorem l_M_row (x1 : Int32) (x2 : Int32) (x3 : Int32) (x4 : Int32) (x5 : Int32) {t0 s0 : g_St} {o : Int32 × g_St} (hE : z_M t0 s0) (hm : m_Fix s0) (h : f_M_row (some 1) x1 x2 x3 x4 x5 s0 = some o) : ∃ o', f_M_row (some 1) x1 x2 x3 x4 x5 t0 = some o' ∧ o'.1 = o.1 ∧ z_M o'.2 o.2 := by
  unfold f_M_row at h
  unfold f_M_row
  refine lc_if h (fun h => ?_) (fun h => ?_)
  · exact l_M_row_33 _ _ _ _ _ _ hE hm h
  · refine lc_gI hE (by decide) h (fun i1 h => ?_)
    refine lc_if h (fun h => ?_) (fun h => ?_)
    · refine lc_gR ((hE.fx hm) _ m_k193).1 (hm _ m_k193).1 h (fun h => ?_)
      refine lc_aI hE (m_arr_of m_k193) h (fun i3 h => ?_)
      refine lc_if h (fun h => ?_) (fun h => ?_)
      · exact l_M_row_33 _ _ _ _ _ _ hE hm h
      · exact l_M_row_33 _ _ _ _ _ _ hE hm h
    · exact l_M_row_33 _ _ _ _ _ _ hE hm h
theorem l_M_clear_18 (x1 : Int32) (x1s : Int32) {t0 s0 : g_St} {o : Int32 × g_St} (hE : z_M t0 s0) (hm : m_Fix s0) (h : f_M_clear_18 (some 1) x1 (some 1) x1s s0 = some o) : ∃ o', f_M_clear_18 (some 1) x1 (some 1) x1s t0 = some o' ∧ o'.1 = o.1 ∧ z_M o'.2 o.2 := by
  unfold f_M_clear_18 at h
  unfold f_M_clear_18
  refine lc_pI h (fun h => ?_)
  have hE1 := hE.pI 1 x1s
  have hm1 := m_setI 1 x1s hm
  refine lc_gI hE1 (by decide) h (fun i2 h => ?_)
  refine lc_if h (fun h => ?_) (fun h => ?_)
  · refine lc_gR ((hE1.fx hm1) _ m_k193).1 (hm1 _ m_k193).1 h (fun h => ?_)
    refine lc_aI hE1 (m_arr_of m_k193) h (fun i4 h => ?_)
    refine lc_gR ((hE1.fx hm1) _ m_k193).1 (hm1 _ m_k193).1 h (fun h => ?_)
    refine lc_sI hE1 (m_arr_of m_k193) h (fun j2 h => ?_)
    have hE2 := hE1.sI 980 j2 0
    have hm2 := m_setAI 980 j2 0 hm1
    exact lc_some hE2 h
  · exact lc_some hE1 h
theorem l_M_clear (x1 : Int32) {t0 s0 : g_St} {o : Int32 × g_St} (hE : z_M t0 s0) (hm : m_Fix s0) (h : f_M_clear (some 1) x1 s0 = some o) : ∃ o', f_M_clear (some 1) x1 t0 = some o' ∧ o'.1 = o.1 ∧ z_M o'.2 o.2 := by
  unfold f_M_clear at h
  unfold f_M_clear
  refine lc_if h (fun h => ?_) (fun h => ?_)
  · exact l_M_clear_18 _ _ hE hm h
  · refine lc_gI hE (by decide) h (fun i1 h => ?_)
    refine lc_if h (fun h => ?_) (fun h => ?_)
    · exact l_M_clear_18 _ _ hE hm h
    · exact l_M_clear_18 _ _ hE hm h
theorem l_M_byteOf_42 (x0 : Int32) (x0s : Int32) {t0 s0 : g_St} {o : Int32 × g_St} (hE : z_M t0 s0) (hm : m_Fix s0) (h : f_M_byteOf_42 x0 x0s s0 = some o) : ∃ o', f_M_byteOf_42 x0 x0s t0 = some o' ∧ o'.1 = o.1 ∧ z_M o'.2 o.2 := by
  unfold f_M_byteOf_42 at h
  unfold f_M_byteOf_42
  refine lc_nz h (fun h => ?_)
  exact lc_some hE h
theorem l_M_byteOf (x0 : Int32) (x1 : Int32) (x2 : Int32) (x3 : Int32) (x4 : Int32) (x5 : Int32) {t0 s0 : g_St} {o : Int32 × g_St} (hE : z_M t0 s0) (hm : m_Fix s0) (h : f_M_byteOf x0 x1 x2 x3 x4 x5 s0 = some o) : ∃ o', f_M_byteOf x0 x1 x2 x3 x4 x5 t0 = some o' ∧ o'.1 = o.1 ∧ z_M o'.2 o.2 := by
  unfold f_M_byteOf at h
  unfold f_M_byteOf
  refine lc_if h (fun h => ?_) (fun h => ?_)
  · refine lc_if h (fun h => ?_) (fun h => ?_)
    · refine lc_if h (fun h => ?_) (fun h => ?_)
      · refine lc_if h (fun h => ?_) (fun h => ?_)
        · exact l_M_byteOf_42 _ _ hE hm h
        · exact l_M_byteOf_42 _ _ hE hm h
      · exact l_M_byteOf_42 _ _ hE hm h
    · exact l_M_byteOf_42 _ _ hE hm h
  · exact l_M_byteOf_42 _ _ hE hm h
theorem l_M_text_110 : ∀ (n : Nat) (x1 : Int32) (x2 : Int32) (x3 : Int32) (x4 : Int32) (x5 : Int32) (x8 : Int32) {t0 s0 : g_St} {o : Int32 × g_St}, z_M t0 s0 → m_Fix s0 → f_M_text_110 n (some 1) x1 x2 x3 x4 x5 x8 s0 = some o → ∃ o', f_M_text_110 n (some 1) x1 x2 x3 x4 x5 x8 t0 = some o' ∧ o'.1 = o.1 ∧ z_M o'.2 o.2 := by
  intro n
  induction n with
  | zero =>
    intro x1 x2 x3 x4 x5 x8 t0 s0 o hE hm h
    rw [f_M_text_110] at h
    cases h
  | succ n ih =>
    intro x1 x2 x3 x4 x5 x8 t0 s0 o hE hm h
    rw [f_M_text_110] at h
    rw [f_M_text_110]
    refine lc_if h (fun h => ?_) (fun h => ?_)
    · exact lc_rZ h (fun h => lc_some hE h)
    · refine lc_c h (fun q hq => l_M_byteOf _ _ _ _ _ _ hE hm hq) (fun i1 s2 t2 hc hE1 h => ?_)
      have hm1 := (w_M_byteOf _ _ _ _ _ _ _ hm hc).fx hm
      refine lc_if h (fun h => ?_) (fun h => ?_)
      · exact ih _ _ _ _ _ _ hE1 hm1 h
      · refine lc_gR ((hE1.fx hm1) _ m_k385).1 (hm1 _ m_k385).1 h (fun h => ?_)
        refine lc_gI hE1 (by decide) h (fun i4 h => ?_)
        refine lc_sI hE1 (m_arr_of m_k385) h (fun j2 h => ?_)
        have hE2 := hE1.sI 1044 j2 i1
        have hm2 := m_setAI 1044 j2 i1 hm1
        refine lc_gI hE2 (by decide) h (fun i6 h => ?_)
        refine lc_pI h (fun h => ?_)
        have hE3 := hE2.pI 321 (i6 + 1)
        have hm3 := m_setI 321 (i6 + 1) hm2
        exact ih _ _ _ _ _ _ hE3 hm3 h
theorem l_M_text_47 {k14 k14' : Option Nat → Int32 → Int32 → Int32 → Int32 → Int32 → Int32 → Int32 → Int32 → g_St → Option (Int32 × g_St)} (hk14 : ∀ (y1 : Int32) (y2 : Int32) (y3 : Int32) (y4 : Int32) (y5 : Int32) (y6 : Int32) (y7 : Int32) (y8 : Int32) {t s : g_St} {o : Int32 × g_St}, z_M t s → m_Fix s → k14 (some 1) y1 y2 y3 y4 y5 y6 y7 y8 s = some o → ∃ o', k14' (some 1) y1 y2 y3 y4 y5 y6 y7 y8 t = some o' ∧ o'.1 = o.1 ∧ z_M o'.2 o.2) (x1 : Int32) (x2 : Int32) (x3 : Int32) (x4 : Int32) (x5 : Int32) (x7 : Int32) (x8 : Int32) (x9 : Int32) (x0s : Int32) (x1s : Int32) {t0 s0 : g_St} {o : Int32 × g_St} (hE : z_M t0 s0) (hm : m_Fix s0) (h : f_M_text_47 k14 (some 1) x1 x2 x3 x4 x5 x7 x8 x9 x0s x1s s0 = some o) : ∃ o', f_M_text_47 k14' (some 1) x1 x2 x3 x4 x5 x7 x8 x9 x0s x1s t0 = some o' ∧ o'.1 = o.1 ∧ z_M o'.2 o.2 := by
  unfold f_M_text_47 at h
  unfold f_M_text_47
  refine lc_if h (fun h => ?_) (fun h => ?_)
  · exact hk14 _ _ _ _ _ _ _ _ hE hm h
  · refine lc_if h (fun h => ?_) (fun h => ?_)
    · exact hk14 _ _ _ _ _ _ _ _ hE hm h
    · refine lc_if h (fun h => ?_) (fun h => ?_)
      · exact hk14 _ _ _ _ _ _ _ _ hE hm h
      · refine lc_if h (fun h => ?_) (fun h => ?_)
        · exact hk14 _ _ _ _ _ _ _ _ hE hm h
        · exact hk14 _ _ _ _ _ _ _ _ hE hm h
theorem l_M_text_14 : ∀ (n : Nat) (x1 : Int32) (x2 : Int32) (x3 : Int32) (x4 : Int32) (x5 : Int32) (x6 : Int32) (x7 : Int32) (x8 : Int32) {t0 s0 : g_St} {o : Int32 × g_St}, z_M t0 s0 → m_Fix s0 → f_M_text_14 n (some 1) x1 x2 x3 x4 x5 x6 x7 x8 s0 = some o → ∃ o', f_M_text_14 n (some 1) x1 x2 x3 x4 x5 x6 x7 x8 t0 = some o' ∧ o'.1 = o.1 ∧ z_M o'.2 o.2 := by
  intro n
  induction n with
  | zero =>
    intro x1 x2 x3 x4 x5 x6 x7 x8 t0 s0 o hE hm h
    rw [f_M_text_14] at h
    cases h
  | succ n ih =>
    intro x1 x2 x3 x4 x5 x6 x7 x8 t0 s0 o hE hm h
    rw [f_M_text_14] at h
    rw [f_M_text_14]
    refine lc_if h (fun h => ?_) (fun h => ?_)
    · refine lc_if h (fun h => ?_) (fun h => ?_)
      · exact lc_rZ h (fun h => lc_some hE h)
      · refine lc_gI hE (by decide) h (fun i1 h => ?_)
        refine lc_if h (fun h => ?_) (fun h => ?_)
        · exact l_M_text_110 _ _ _ _ _ _ _ hE hm h
        · exact lc_rZ h (fun h => lc_some hE h)
    · refine lc_c h (fun q hq => l_M_byteOf _ _ _ _ _ _ hE hm hq) (fun i2 s3 t3 hc hE1 h => ?_)
      have hm1 := (w_M_byteOf _ _ _ _ _ _ _ hm hc).fx hm
      refine lc_if h (fun h => ?_) (fun h => ?_)
      · exact l_M_text_47 ih _ _ _ _ _ _ _ _ _ _ hE1 hm1 h
      · exact l_M_text_47 ih _ _ _ _ _ _ _ _ _ _ hE1 hm1 h
theorem l_M_text (x1 : Int32) (x2 : Int32) (x3 : Int32) (x4 : Int32) (x5 : Int32) {t0 s0 : g_St} {o : Int32 × g_St} (hE : z_M t0 s0) (hm : m_Fix s0) (h : f_M_text (some 1) x1 x2 x3 x4 x5 s0 = some o) : ∃ o', f_M_text (some 1) x1 x2 x3 x4 x5 t0 = some o' ∧ o'.1 = o.1 ∧ z_M o'.2 o.2 := by
  unfold f_M_text at h
  unfold f_M_text
  refine lc_pI h (fun h => ?_)
  have hE1 := hE.pI 1 0
  have hm1 := m_setI 1 0 hm
  exact l_M_text_14 _ _ _ _ _ _ _ _ _ hE1 hm1 h
theorem l_M_isCapital (x0 : Int32) {t0 s0 : g_St} {o : Int32 × g_St} (hE : z_M t0 s0) (hm : m_Fix s0) (h : f_M_isCapital x0 s0 = some o) : ∃ o', f_M_isCapital x0 t0 = some o' ∧ o'.1 = o.1 ∧ z_M o'.2 o.2 := by
  unfold f_M_isCapital at h
  unfold f_M_isCapital
  refine lc_if h (fun h => ?_) (fun h => ?_)
  · exact lc_rZ h (fun h => lc_some hE h)
  · refine lc_if h (fun h => ?_) (fun h => ?_)
    · exact lc_rZ h (fun h => lc_some hE h)
    · exact lc_rZ h (fun h => lc_some hE h)
theorem l_M_isSmall (x0 : Int32) {t0 s0 : g_St} {o : Int32 × g_St} (hE : z_M t0 s0) (hm : m_Fix s0) (h : f_M_isSmall x0 s0 = some o) : ∃ o', f_M_isSmall x0 t0 = some o' ∧ o'.1 = o.1 ∧ z_M o'.2 o.2 := by
  unfold f_M_isSmall at h
  unfold f_M_isSmall
  refine lc_if h (fun h => ?_) (fun h => ?_)
  · exact lc_rZ h (fun h => lc_some hE h)
  · refine lc_if h (fun h => ?_) (fun h => ?_)
    · exact lc_rZ h (fun h => lc_some hE h)
    · exact lc_rZ h (fun h => lc_some hE h)
theorem l_M_isDigit (x0 : Int32) {t0 s0 : g_St} {o : Int32 × g_St} (hE : z_M t0 s0) (hm : m_Fix s0) (h : f_M_isDigit x0 s0 = some o) : ∃ o', f_M_isDigit x0 t0 = some o' ∧ o'.1 = o.1 ∧ z_M o'.2 o.2 := by
  unfold f_M_isDigit at h
  unfold f_M_isDigit
  refine lc_if h (fun h => ?_) (fun h => ?_)
  · exact lc_rZ h (fun h => lc_some hE h)
  · refine lc_if h (fun h => ?_) (fun h => ?_)
    · exact lc_rZ h (fun h => lc_some hE h)
    · exact lc_rZ h (fun h => lc_some hE h)
theorem l_M_letter (x1 : Int32) {t0 s0 : g_St} {o : Int32 × g_St} (hE : z_M t0 s0) (hm : m_Fix s0) (h : f_M_letter (some 1) x1 s0 = some o) : ∃ o', f_M_letter (some 1) x1 t0 = some o' ∧ o'.1 = o.1 ∧ z_M o'.2 o.2 := by
  unfold f_M_letter at h
  unfold f_M_letter
  refine lc_gI hE (by decide) h (fun i1 h => ?_)
  refine lc_if h (fun h => ?_) (fun h => ?_)
  · exact lc_some hE h
  · refine lc_gR ((hE.fx hm) _ m_k385).1 (hm _ m_k385).1 h (fun h => ?_)
    refine lc_aI hE (m_arr_of m_k385) h (fun i3 h => ?_)
    exact lc_some hE h
theorem l_M_scanKeyword_52 : ∀ (n : Nat) (x1 : Int32) (x2 : Int32) (y3 : Int64) (x5 : Int32) {t0 s0 : g_St} {o : Int32 × g_St}, z_M t0 s0 → m_Fix s0 → f_M_scanKeyword_52 n (some 1) x1 x2 y3 x5 s0 = some o → ∃ o', f_M_scanKeyword_52 n (some 1) x1 x2 y3 x5 t0 = some o' ∧ o'.1 = o.1 ∧ z_M o'.2 o.2 := by
  intro n
  induction n with
  | zero =>
    intro x1 x2 y3 x5 t0 s0 o hE hm h
    rw [f_M_scanKeyword_52] at h
    cases h
  | succ n ih =>
    intro x1 x2 y3 x5 t0 s0 o hE hm h
    rw [f_M_scanKeyword_52] at h
    rw [f_M_scanKeyword_52]
    refine lc_if h (fun h => ?_) (fun h => ?_)
    · exact lc_some hE h
    · refine lc_gR ((hE.fx hm) _ m_k449).1 (hm _ m_k449).1 h (fun h => ?_)
      refine lc_aL hE (m_arr_of m_k449) h (fun j2 h => ?_)
      refine lc_if h (fun h => ?_) (fun h => ?_)
      · refine lc_if h (fun h => ?_) (fun h => ?_)
        · exact ih _ _ _ _ hE hm h
        · refine lc_gR ((hE.fx hm) _ m_k641).1 (hm _ m_k641).1 h (fun h => ?_)
          refine lc_gI hE (by decide) h (fun i4 h => ?_)
          refine lc_sI hE (m_arr_of m_k641) h (fun j1 h => ?_)
          have hE1 := hE.sI 1108 j1 x5
          have hm1 := m_setAI 1108 j1 x5 hm
          exact ih _ _ _ _ hE1 hm1 h
      · exact ih _ _ _ _ hE hm h
theorem l_M_scanKeyword_4 : ∀ (n : Nat) (x1 : Int32) (x2 : Int32) (y3 : Int64) {t0 s0 : g_St} {o : Int32 × g_St}, z_M t0 s0 → m_Fix s0 → f_M_scanKeyword_4 n (some 1) x1 x2 y3 s0 = some o → ∃ o', f_M_scanKeyword_4 n (some 1) x1 x2 y3 t0 = some o' ∧ o'.1 = o.1 ∧ z_M o'.2 o.2 := by
  intro n
  induction n with
  | zero =>
    intro x1 x2 y3 t0 s0 o hE hm h
    rw [f_M_scanKeyword_4] at h
    cases h
  | succ n ih =>
    intro x1 x2 y3 t0 s0 o hE hm h
    rw [f_M_scanKeyword_4] at h
    rw [f_M_scanKeyword_4]
    refine lc_c h (fun q hq => lc_nn (l_M_letter _ hE hm (er_nn hq))) (fun i1 s2 t2 hc hE1 h => ?_)
    have hm1 := (w_M_letter _ _ hm (er_nn hc)).fx hm
    refine lc_c h (fun q hq => l_M_isCapital _ hE1 hm1 hq) (fun i3 s4 t4 hc hE2 h => ?_)
    have hm2 := (w_M_isCapital _ _ hm1 hc).fx hm1
    refine lc_if h (fun h => ?_) (fun h => ?_)
    · refine lc_gR ((hE2.fx hm2) _ m_k641).1 (hm2 _ m_k641).1 h (fun h => ?_)
      refine lc_gI hE2 (by decide) h (fun i6 h => ?_)
      refine lc_sI hE2 (m_arr_of m_k641) h (fun j3 h => ?_)
      have hE3 := hE2.sI 1108 j3 0
      have hm3 := m_setAI 1108 j3 0 hm2
      exact l_M_scanKeyword_52 _ _ _ _ _ hE3 hm3 h
    · refine lc_if h (fun h => ?_) (fun h => ?_)
      · exact ih _ _ _ hE2 hm2 h
      · refine lc_c h (fun q hq => lc_nn (l_M_letter _ hE2 hm2 (er_nn hq))) (fun i8 s9 t9 hc hE4 h => ?_)
        have hm4 := (w_M_letter _ _ hm2 (er_nn hc)).fx hm2
        refine lc_c h (fun q hq => l_M_longer _ _ hE4 hm4 hq) (fun j10 s11 t11 hc hE5 h => ?_)
        have hm5 := (w_M_longer _ _ _ hm4 hc).fx hm4
        exact ih _ _ _ hE5 hm5 h
theorem l_M_scanKeyword (x1 : Int32) {t0 s0 : g_St} {o : Int32 × g_St} (hE : z_M t0 s0) (hm : m_Fix s0) (h : f_M_scanKeyword (some 1) x1 s0 = some o) : ∃ o', f_M_scanKeyword (some 1) x1 t0 = some o' ∧ o'.1 = o.1 ∧ z_M o'.2 o.2 := by
  unfold f_M_scanKeyword at h
  unfold f_M_scanKeyword
  exact l_M_scanKeyword_4 _ _ _ _ hE hm h
theorem l_M_scanName_26 {k4 k4' : Option Nat → Int32 → Int32 → Int64 → g_St → Option (Int32 × g_St)} (hk4 : ∀ (y1 : Int32) (y2 : Int32) (y3 : Int64) {t s : g_St} {o : Int32 × g_St}, z_M t s → m_Fix s → k4 (some 1) y1 y2 y3 s = some o → ∃ o', k4' (some 1) y1 y2 y3 t = some o' ∧ o'.1 = o.1 ∧ z_M o'.2 o.2) (x1 : Int32) (x2 : Int32) (y3 : Int64) {t0 s0 : g_St} {o : Int32 × g_St} (hE : z_M t0 s0) (hm : m_Fix s0) (h : f_M_scanName_26 k4 (some 1) x1 x2 y3 s0 = some o) : ∃ o', f_M_scanName_26 k4' (some 1) x1 x2 y3 t0 = some o' ∧ o'.1 = o.1 ∧ z_M o'.2 o.2 := by
  unfold f_M_scanName_26 at h
  unfold f_M_scanName_26
  refine lc_if h (fun h => ?_) (fun h => ?_)
  · exact hk4 _ _ _ hE hm h
  · refine lc_c h (fun q hq => lc_nn (l_M_letter _ hE hm (er_nn hq))) (fun i1 s2 t2 hc hE1 h => ?_)
    have hm1 := (w_M_letter _ _ hm (er_nn hc)).fx hm
    refine lc_c h (fun q hq => l_M_isDigit _ hE1 hm1 hq) (fun i3 s4 t4 hc hE2 h => ?_)
    have hm2 := (w_M_isDigit _ _ hm1 hc).fx hm1
    refine lc_if h (fun h => ?_) (fun h => ?_)
    · refine lc_c h (fun q hq => lc_nn (l_M_letter _ hE2 hm2 (er_nn hq))) (fun i5 s6 t6 hc hE3 h => ?_)
      have hm3 := (w_M_letter _ _ hm2 (er_nn hc)).fx hm2
      exact hk4 _ _ _ hE3 hm3 h
    · refine lc_c h (fun q hq => lc_nn (l_M_letter _ hE2 hm2 (er_nn hq))) (fun i7 s8 t8 hc hE4 h => ?_)
      have hm4 := (w_M_letter _ _ hm2 (er_nn hc)).fx hm2
      exact hk4 _ _ _ hE4 hm4 h
theorem l_M_scanName_4 : ∀ (n : Nat) (x1 : Int32) (x2 : Int32) (y3 : Int64) {t0 s0 : g_St} {o : Int32 × g_St}, z_M t0 s0 → m_Fix s0 → f_M_scanName_4 n (some 1) x1 x2 y3 s0 = some o → ∃ o', f_M_scanName_4 n (some 1) x1 x2 y3 t0 = some o' ∧ o'.1 = o.1 ∧ z_M o'.2 o.2 := by
  intro n
  induction n with
  | zero =>
    intro x1 x2 y3 t0 s0 o hE hm h
    rw [f_M_scanName_4] at h
    cases h
  | succ n ih =>
    intro x1 x2 y3 t0 s0 o hE hm h
    rw [f_M_scanName_4] at h
    rw [f_M_scanName_4]
    refine lc_c h (fun q hq => lc_nn (l_M_letter _ hE hm (er_nn hq))) (fun i1 s2 t2 hc hE1 h => ?_)
    have hm1 := (w_M_letter _ _ hm (er_nn hc)).fx hm
    refine lc_c h (fun q hq => l_M_isSmall _ hE1 hm1 hq) (fun i3 s4 t4 hc hE2 h => ?_)
    have hm2 := (w_M_isSmall _ _ hm1 hc).fx hm1
    refine lc_if h (fun h => ?_) (fun h => ?_)
    · refine lc_c h (fun q hq => lc_nn (l_M_letter _ hE2 hm2 (er_nn hq))) (fun i5 s6 t6 hc hE3 h => ?_)
      have hm3 := (w_M_letter _ _ hm2 (er_nn hc)).fx hm2
      refine lc_c h (fun q hq => l_M_isDigit _ hE3 hm3 hq) (fun i7 s8 t8 hc hE4 h => ?_)
      have hm4 := (w_M_isDigit _ _ hm3 hc).fx hm3
      refine lc_if h (fun h => ?_) (fun h => ?_)
      · refine lc_gR ((hE4.fx hm4) _ m_k641).1 (hm4 _ m_k641).1 h (fun h => ?_)
        refine lc_gI hE4 (by decide) h (fun i10 h => ?_)
        refine lc_if h (fun h => ?_) (fun h => ?_)
        · refine lc_sI hE4 (m_arr_of m_k641) h (fun j5 h => ?_)
          have hE5 := hE4.sI 1108 j5 30
          have hm5 := m_setAI 1108 j5 30 hm4
          refine lc_gR ((hE5.fx hm5) _ m_k769).1 (hm5 _ m_k769).1 h (fun h => ?_)
          refine lc_gI hE5 (by decide) h (fun i13 h => ?_)
          refine lc_sL hE5 (m_arr_of m_k769) h (fun j6 h => ?_)
          have hE6 := hE5.sL 725 j6 y3
          have hm6 := m_setAL 725 j6 y3 hm5
          exact lc_some hE6 h
        · refine lc_sI hE4 (m_arr_of m_k641) h (fun j7 h => ?_)
          have hE7 := hE4.sI 1108 j7 0
          have hm7 := m_setAI 1108 j7 0 hm4
          refine lc_gR ((hE7.fx hm7) _ m_k769).1 (hm7 _ m_k769).1 h (fun h => ?_)
          refine lc_gI hE7 (by decide) h (fun i17 h => ?_)
          refine lc_sL hE7 (m_arr_of m_k769) h (fun j8 h => ?_)
          have hE8 := hE7.sL 725 j8 y3
          have hm8 := m_setAL 725 j8 y3 hm7
          exact lc_some hE8 h
      · exact l_M_scanName_26 ih _ _ _ hE4 hm4 h
    · exact l_M_scanName_26 ih _ _ _ hE2 hm2 h
theorem l_M_scanName (x1 : Int32) {t0 s0 : g_St} {o : Int32 × g_St} (hE : z_M t0 s0) (hm : m_Fix s0) (h : f_M_scanName (some 1) x1 s0 = some o) : ∃ o', f_M_scanName (some 1) x1 t0 = some o' ∧ o'.1 = o.1 ∧ z_M o'.2 o.2 := by
  unfold f_M_scanName at h
  unfold f_M_scanName
  exact l_M_scanName_4 _ _ _ _ hE hm h
theorem l_M_scanNumber_4 : ∀ (n : Nat) (x1 : Int32) (x2 : Int32) (y3 : Int64) {t0 s0 : g_St} {o : Int32 × g_St}, z_M t0 s0 → m_Fix s0 → f_M_scanNumber_4 n (some 1) x1 x2 y3 s0 = some o → ∃ o', f_M_scanNumber_4 n (some 1) x1 x2 y3 t0 = some o' ∧ o'.1 = o.1 ∧ z_M o'.2 o.2 := by
  intro n
  induction n with
  | zero =>
    intro x1 x2 y3 t0 s0 o hE hm h
    rw [f_M_scanNumber_4] at h
    cases h
  | succ n ih =>
    intro x1 x2 y3 t0 s0 o hE hm h
    rw [f_M_scanNumber_4] at h
    rw [f_M_scanNumber_4]
    refine lc_c h (fun q hq => lc_nn (l_M_letter _ hE hm (er_nn hq))) (fun i1 s2 t2 hc hE1 h => ?_)
    have hm1 := (w_M_letter _ _ hm (er_nn hc)).fx hm
    refine lc_c h (fun q hq => l_M_isDigit _ hE1 hm1 hq) (fun i3 s4 t4 hc hE2 h => ?_)
    have hm2 := (w_M_isDigit _ _ hm1 hc).fx hm1
    refine lc_if h (fun h => ?_) (fun h => ?_)
    · refine lc_gR ((hE2.fx hm2) _ m_k641).1 (hm2 _ m_k641).1 h (fun h => ?_)
      refine lc_gI hE2 (by decide) h (fun i6 h => ?_)
      refine lc_if h (fun h => ?_) (fun h => ?_)
      · refine lc_sI hE2 (m_arr_of m_k641) h (fun j3 h => ?_)
        have hE3 := hE2.sI 1108 j3 31
        have hm3 := m_setAI 1108 j3 31 hm2
        refine lc_gR ((hE3.fx hm3) _ m_k769).1 (hm3 _ m_k769).1 h (fun h => ?_)
        refine lc_gI hE3 (by decide) h (fun i9 h => ?_)
        refine lc_sL hE3 (m_arr_of m_k769) h (fun j4 h => ?_)
        have hE4 := hE3.sL 725 j4 y3
        have hm4 := m_setAL 725 j4 y3 hm3
        exact lc_some hE4 h
      · refine lc_sI hE2 (m_arr_of m_k641) h (fun j5 h => ?_)
        have hE5 := hE2.sI 1108 j5 0
        have hm5 := m_setAI 1108 j5 0 hm2
        refine lc_gR ((hE5.fx hm5) _ m_k769).1 (hm5 _ m_k769).1 h (fun h => ?_)
        refine lc_gI hE5 (by decide) h (fun i13 h => ?_)
        refine lc_sL hE5 (m_arr_of m_k769) h (fun j6 h => ?_)
        have hE6 := hE5.sL 725 j6 y3
        have hm6 := m_setAL 725 j6 y3 hm5
        exact lc_some hE6 h
    · refine lc_if h (fun h => ?_) (fun h => ?_)
      · exact ih _ _ _ hE2 hm2 h
      · refine lc_c h (fun q hq => lc_nn (l_M_letter _ hE2 hm2 (er_nn hq))) (fun i15 s16 t16 hc hE7 h => ?_)
        have hm7 := (w_M_letter _ _ hm2 (er_nn hc)).fx hm2
        exact ih _ _ _ hE7 hm7 h
theorem l_M_scanNumber (x1 : Int32) {t0 s0 : g_St} {o : Int32 × g_St} (hE : z_M t0 s0) (hm : m_Fix s0) (h : f_M_scanNumber (some 1) x1 s0 = some o) : ∃ o', f_M_scanNumber (some 1) x1 t0 = some o' ∧ o'.1 = o.1 ∧ z_M o'.2 o.2 := by
  unfold f_M_scanNumber at h
  unfold f_M_scanNumber
  exact l_M_scanNumber_4 _ _ _ _ hE hm h
theorem l_M_scanSign_105 (x1 : Int32) (x2 : Int32) (x0s : Int32) {t0 s0 : g_St} {o : Int32 × g_St} (hE : z_M t0 s0) (hm : m_Fix s0) (h : f_M_scanSign_105 (some 1) x1 x2 x0s s0 = some o) : ∃ o', f_M_scanSign_105 (some 1) x1 x2 x0s t0 = some o' ∧ o'.1 = o.1 ∧ z_M o'.2 o.2 := by
  unfold f_M_scanSign_105 at h
  unfold f_M_scanSign_105
  refine lc_gR ((hE.fx hm) _ m_k641).1 (hm _ m_k641).1 h (fun h => ?_)
  refine lc_gI hE (by decide) h (fun i2 h => ?_)
  refine lc_if h (fun h => ?_) (fun h => ?_)
  · refine lc_sI hE (m_arr_of m_k641) h (fun j1 h => ?_)
    have hE1 := hE.sI 1108 j1 0
    have hm1 := m_setAI 1108 j1 0 hm
    exact lc_some hE1 h
  · refine lc_sI hE (m_arr_of m_k641) h (fun j2 h => ?_)
    have hE2 := hE.sI 1108 j2 (100 + x2)
    have hm2 := m_setAI 1108 j2 (100 + x2) hm
    exact lc_some hE2 h
theorem l_M_scanSign_40 (x1 : Int32) (x2 : Int32) {t0 s0 : g_St} {o : Int32 × g_St} (hE : z_M t0 s0) (hm : m_Fix s0) (h : f_M_scanSign_40 (some 1) x1 x2 s0 = some o) : ∃ o', f_M_scanSign_40 (some 1) x1 x2 t0 = some o' ∧ o'.1 = o.1 ∧ z_M o'.2 o.2 := by
  unfold f_M_scanSign_40 at h
  unfold f_M_scanSign_40
  refine lc_if h (fun h => ?_) (fun h => ?_)
  · exact l_M_scanSign_105 _ _ _ hE hm h
  · refine lc_if h (fun h => ?_) (fun h => ?_)
    · exact l_M_scanSign_105 _ _ _ hE hm h
    · refine lc_if h (fun h => ?_) (fun h => ?_)
      · exact l_M_scanSign_105 _ _ _ hE hm h
      · refine lc_if h (fun h => ?_) (fun h => ?_)
        · exact l_M_scanSign_105 _ _ _ hE hm h
        · refine lc_if h (fun h => ?_) (fun h => ?_)
          · exact l_M_scanSign_105 _ _ _ hE hm h
          · refine lc_if h (fun h => ?_) (fun h => ?_)
            · exact l_M_scanSign_105 _ _ _ hE hm h
            · refine lc_if h (fun h => ?_) (fun h => ?_)
              · exact l_M_scanSign_105 _ _ _ hE hm h
              · refine lc_if h (fun h => ?_) (fun h => ?_)
                · exact l_M_scanSign_105 _ _ _ hE hm h
                · refine lc_if h (fun h => ?_) (fun h => ?_)
                  · exact l_M_scanSign_105 _ _ _ hE hm h
                  · refine lc_if h (fun h => ?_) (fun h => ?_)
                    · exact l_M_scanSign_105 _ _ _ hE hm h
                    · exact l_M_scanSign_105 _ _ _ hE hm h
theorem l_M_scanSign (x1 : Int32) {t0 s0 : g_St} {o : Int32 × g_St} (hE : z_M t0 s0) (hm : m_Fix s0) (h : f_M_scanSign (some 1) x1 s0 = some o) : ∃ o', f_M_scanSign (some 1) x1 t0 = some o' ∧ o'.1 = o.1 ∧ z_M o'.2 o.2 := by
  unfold f_M_scanSign at h
  unfold f_M_scanSign
  refine lc_gR ((hE.fx hm) _ m_k385).1 (hm _ m_k385).1 h (fun h => ?_)
  refine lc_aI hE (m_arr_of m_k385) h (fun i2 h => ?_)
  refine lc_if h (fun h => ?_) (fun h => ?_)
  · refine lc_c h (fun q hq => lc_nn (l_M_letter _ hE hm (er_nn hq))) (fun i3 s4 t4 hc hE1 h => ?_)
    have hm1 := (w_M_letter _ _ hm (er_nn hc)).fx hm
    refine lc_if h (fun h => ?_) (fun h => ?_)
    · refine lc_gR ((hE1.fx hm1) _ m_k641).1 (hm1 _ m_k641).1 h (fun h => ?_)
      refine lc_gI hE1 (by decide) h (fun i6 h => ?_)
      refine lc_sI hE1 (m_arr_of m_k641) h (fun j2 h => ?_)
      have hE2 := hE1.sI 1108 j2 32
      have hm2 := m_setAI 1108 j2 32 hm1
      exact lc_some hE2 h
    · exact l_M_scanSign_40 _ _ hE1 hm1 h
  · exact l_M_scanSign_40 _ _ hE hm h
theorem l_M_scan_7 : ∀ (n : Nat) (x1 : Int32) {t0 s0 : g_St} {o : Unit × g_St}, z_M t0 s0 → m_Fix s0 → f_M_scan_7 n (some 1) x1 s0 = some o → ∃ o', f_M_scan_7 n (some 1) x1 t0 = some o' ∧ o'.1 = o.1 ∧ z_M o'.2 o.2 := by
  intro n
  induction n with
  | zero =>
    intro x1 t0 s0 o hE hm h
    rw [f_M_scan_7] at h
    cases h
  | succ n ih =>
    intro x1 t0 s0 o hE hm h
    rw [f_M_scan_7] at h
    rw [f_M_scan_7]
    refine lc_gI hE (by decide) h (fun i1 h => ?_)
    refine lc_if h (fun h => ?_) (fun h => ?_)
    · refine lc_gR ((hE.fx hm) _ m_k641).1 (hm _ m_k641).1 h (fun h => ?_)
      refine lc_gI hE (by decide) h (fun i3 h => ?_)
      refine lc_sI hE (m_arr_of m_k641) h (fun j1 h => ?_)
      have hE1 := hE.sI 1108 j1 99
      have hm1 := m_setAI 1108 j1 99 hm
      refine lc_gR ((hE1.fx hm1) _ m_k705).1 (hm1 _ m_k705).1 h (fun h => ?_)
      refine lc_gI hE1 (by decide) h (fun i6 h => ?_)
      refine lc_gI hE1 (by decide) h (fun i7 h => ?_)
      refine lc_sI hE1 (m_arr_of m_k705) h (fun j2 h => ?_)
      have hE2 := hE1.sI 1172 j2 i7
      have hm2 := m_setAI 1172 j2 i7 hm1
      exact lc_some hE2 h
    · refine lc_gR ((hE.fx hm) _ m_k385).1 (hm _ m_k385).1 h (fun h => ?_)
      refine lc_aI hE (m_arr_of m_k385) h (fun i10 h => ?_)
      refine lc_if h (fun h => ?_) (fun h => ?_)
      · exact ih _ hE hm h
      · refine lc_gR ((hE.fx hm) _ m_k705).1 (hm _ m_k705).1 h (fun h => ?_)
        refine lc_gI hE (by decide) h (fun i12 h => ?_)
        refine lc_sI hE (m_arr_of m_k705) h (fun j3 h => ?_)
        have hE3 := hE.sI 1172 j3 x1
        have hm3 := m_setAI 1172 j3 x1 hm
        refine lc_gR ((hE3.fx hm3) _ m_k769).1 (hm3 _ m_k769).1 h (fun h => ?_)
        refine lc_gI hE3 (by decide) h (fun i15 h => ?_)
        refine lc_sL hE3 (m_arr_of m_k769) h (fun j4 h => ?_)
        have hE4 := hE3.sL 725 j4 0
        have hm4 := m_setAL 725 j4 0 hm3
        refine lc_c h (fun q hq => l_M_isCapital _ hE4 hm4 hq) (fun i17 s18 t18 hc hE5 h => ?_)
        have hm5 := (w_M_isCapital _ _ hm4 hc).fx hm4
        refine lc_if h (fun h => ?_) (fun h => ?_)
        · refine lc_c h (fun q hq => l_M_isSmall _ hE5 hm5 hq) (fun i19 s20 t20 hc hE6 h => ?_)
          have hm6 := (w_M_isSmall _ _ hm5 hc).fx hm5
          refine lc_if h (fun h => ?_) (fun h => ?_)
          · refine lc_c h (fun q hq => l_M_isDigit _ hE6 hm6 hq) (fun i21 s22 t22 hc hE7 h => ?_)
            have hm7 := (w_M_isDigit _ _ hm6 hc).fx hm6
            refine lc_if h (fun h => ?_) (fun h => ?_)
            · refine lc_c h (fun q hq => lc_nn (l_M_scanSign _ hE7 hm7 (er_nn hq))) (fun i23 s24 t24 hc hE8 h => ?_)
              have hm8 := (w_M_scanSign _ _ hm7 (er_nn hc)).fx hm7
              refine lc_gI hE8 (by decide) h (fun i25 h => ?_)
              refine lc_pI h (fun h => ?_)
              have hE9 := hE8.pI 513 (i25 + 1)
              have hm9 := m_setI 513 (i25 + 1) hm8
              exact ih _ hE9 hm9 h
            · refine lc_c h (fun q hq => lc_nn (l_M_scanNumber _ hE7 hm7 (er_nn hq))) (fun i27 s28 t28 hc hE10 h => ?_)
              have hm10 := (w_M_scanNumber _ _ hm7 (er_nn hc)).fx hm7
              refine lc_gI hE10 (by decide) h (fun i29 h => ?_)
              refine lc_pI h (fun h => ?_)
              have hE11 := hE10.pI 513 (i29 + 1)
              have hm11 := m_setI 513 (i29 + 1) hm10
              exact ih _ hE11 hm11 h
          · refine lc_c h (fun q hq => lc_nn (l_M_scanName _ hE6 hm6 (er_nn hq))) (fun i31 s32 t32 hc hE12 h => ?_)
            have hm12 := (w_M_scanName _ _ hm6 (er_nn hc)).fx hm6
            refine lc_gI hE12 (by decide) h (fun i33 h => ?_)
            refine lc_pI h (fun h => ?_)
            have hE13 := hE12.pI 513 (i33 + 1)
            have hm13 := m_setI 513 (i33 + 1) hm12
            exact ih _ hE13 hm13 h
        · refine lc_c h (fun q hq => lc_nn (l_M_scanKeyword _ hE5 hm5 (er_nn hq))) (fun i35 s36 t36 hc hE14 h => ?_)
          have hm14 := (w_M_scanKeyword _ _ hm5 (er_nn hc)).fx hm5
          refine lc_gI hE14 (by decide) h (fun i37 h => ?_)
          refine lc_pI h (fun h => ?_)
          have hE15 := hE14.pI 513 (i37 + 1)
          have hm15 := m_setI 513 (i37 + 1) hm14
          exact ih _ hE15 hm15 h
theorem l_M_scan  {t0 s0 : g_St} {o : Unit × g_St} (hE : z_M t0 s0) (hm : m_Fix s0) (h : f_M_scan (some 1) s0 = some o) : ∃ o', f_M_scan (some 1) t0 = some o' ∧ o'.1 = o.1 ∧ z_M o'.2 o.2 := by
  unfold f_M_scan at h
  unfold f_M_scan
  refine lc_pI h (fun h => ?_)
  have hE1 := hE.pI 513 0
  have hm1 := m_setI 513 0 hm
  exact l_M_scan_7 _ _ hE1 hm1 h
theorem l_M_note (x1 : Int32) (x2 : Int32) {t0 s0 : g_St} {o : Unit × g_St} (hE : z_M t0 s0) (hm : m_Fix s0) (h : f_M_note (some 1) x1 x2 s0 = some o) : ∃ o', f_M_note (some 1) x1 x2 t0 = some o' ∧ o'.1 = o.1 ∧ z_M o'.2 o.2 := by
  unfold f_M_note at h
  unfold f_M_note
  refine lc_gI hE (by decide) h (fun i1 h => ?_)
  refine lc_if h (fun h => ?_) (fun h => ?_)
  · refine lc_pI h (fun h => ?_)
    have hE1 := hE.pI 833 x1
    have hm1 := m_setI 833 x1 hm
    refine lc_pI h (fun h => ?_)
    have hE2 := hE1.pI 897 x2
    have hm2 := m_setI 897 x2 hm1
    exact lc_some hE2 h
  · refine lc_gI hE (by decide) h (fun i4 h => ?_)
    refine lc_if h (fun h => ?_) (fun h => ?_)
    · exact lc_some hE h
    · refine lc_gI hE (by decide) h (fun i5 h => ?_)
      refine lc_if h (fun h => ?_) (fun h => ?_)
      · refine lc_gI hE (by decide) h (fun i8 h => ?_)
        refine lc_if h (fun h => ?_) (fun h => ?_)
        · refine lc_pI h (fun h => ?_)
          have hE3 := hE.pI 833 x1
          have hm3 := m_setI 833 x1 hm
          refine lc_pI h (fun h => ?_)
          have hE4 := hE3.pI 897 x2
          have hm4 := m_setI 897 x2 hm3
          exact lc_some hE4 h
        · exact lc_some hE h
      · refine lc_pI h (fun h => ?_)
        have hE5 := hE.pI 833 x1
        have hm5 := m_setI 833 x1 hm
        refine lc_pI h (fun h => ?_)
        have hE6 := hE5.pI 897 x2
        have hm6 := m_setI 897 x2 hm5
        exact lc_some hE6 h
theorem l_M_bad  {t0 s0 : g_St} {o : Int32 × g_St} (hE : z_M t0 s0) (hm : m_Fix s0) (h : f_M_bad (some 1) s0 = some o) : ∃ o', f_M_bad (some 1) t0 = some o' ∧ o'.1 = o.1 ∧ z_M o'.2 o.2 := by
  unfold f_M_bad at h
  unfold f_M_bad
  refine lc_gI hE (by decide) h (fun i1 h => ?_)
  refine lc_if h (fun h => ?_) (fun h => ?_)
  · exact lc_rZ h (fun h => lc_some hE h)
  · exact lc_rZ h (fun h => lc_some hE h)
theorem l_M_is (x1 : Int32) {t0 s0 : g_St} {o : Int32 × g_St} (hE : z_M t0 s0) (hm : m_Fix s0) (h : f_M_is (some 1) x1 s0 = some o) : ∃ o', f_M_is (some 1) x1 t0 = some o' ∧ o'.1 = o.1 ∧ z_M o'.2 o.2 := by
  unfold f_M_is at h
  unfold f_M_is
  refine lc_c h (fun q hq => lc_nn (l_M_bad hE hm (er_nn hq))) (fun i1 s2 t2 hc hE1 h => ?_)
  have hm1 := (w_M_bad _ hm (er_nn hc)).fx hm
  refine lc_if h (fun h => ?_) (fun h => ?_)
  · refine lc_gR ((hE1.fx hm1) _ m_k641).1 (hm1 _ m_k641).1 h (fun h => ?_)
    refine lc_gI hE1 (by decide) h (fun i4 h => ?_)
    refine lc_aI hE1 (m_arr_of m_k641) h (fun i5 h => ?_)
    refine lc_if h (fun h => ?_) (fun h => ?_)
    · exact lc_rZ h (fun h => lc_some hE1 h)
    · exact lc_rZ h (fun h => lc_some hE1 h)
  · exact lc_rZ h (fun h => lc_some hE1 h)
theorem l_M_isSign (x1 : Int32) {t0 s0 : g_St} {o : Int32 × g_St} (hE : z_M t0 s0) (hm : m_Fix s0) (h : f_M_isSign (some 1) x1 s0 = some o) : ∃ o', f_M_isSign (some 1) x1 t0 = some o' ∧ o'.1 = o.1 ∧ z_M o'.2 o.2 := by
  unfold f_M_isSign at h
  unfold f_M_isSign
  refine lc_c h (fun q hq => lc_nn (l_M_is _ hE hm (er_nn hq))) (fun i1 s2 t2 hc hE1 h => ?_)
  have hm1 := (w_M_is _ _ hm (er_nn hc)).fx hm
  exact lc_rZ h (fun h => lc_some hE1 h)
theorem l_M_need (x1 : Int32) {t0 s0 : g_St} {o : Int32 × g_St} (hE : z_M t0 s0) (hm : m_Fix s0) (h : f_M_need (some 1) x1 s0 = some o) : ∃ o', f_M_need (some 1) x1 t0 = some o' ∧ o'.1 = o.1 ∧ z_M o'.2 o.2 := by
  unfold f_M_need at h
  unfold f_M_need
  refine lc_c h (fun q hq => lc_nn (l_M_is _ hE hm (er_nn hq))) (fun i1 s2 t2 hc hE1 h => ?_)
  have hm1 := (w_M_is _ _ hm (er_nn hc)).fx hm
  refine lc_if h (fun h => ?_) (fun h => ?_)
  · refine lc_c h (fun q hq => lc_nn (l_M_bad hE1 hm1 (er_nn hq))) (fun i3 s4 t4 hc hE2 h => ?_)
    have hm2 := (w_M_bad _ hm1 (er_nn hc)).fx hm1
    refine lc_if h (fun h => ?_) (fun h => ?_)
    · refine lc_gR ((hE2.fx hm2) _ m_k705).1 (hm2 _ m_k705).1 h (fun h => ?_)
      refine lc_gI hE2 (by decide) h (fun i7 h => ?_)
      refine lc_aI hE2 (m_arr_of m_k705) h (fun i8 h => ?_)
      refine lc_c h (fun q hq => lc_nn (l_M_note _ _ hE2 hm2 (er_nn hq))) (fun v3 s10 t10 hc hE3 h => ?_)
      have hm3 := (w_M_note _ _ _ hm2 (er_nn hc)).fx hm2
      refine lc_gI hE3 (by decide) h (fun i11 h => ?_)
      exact lc_some hE3 h
    · refine lc_gI hE2 (by decide) h (fun i5 h => ?_)
      exact lc_some hE2 h
  · refine lc_gI hE1 (by decide) h (fun i12 h => ?_)
    refine lc_pI h (fun h => ?_)
    have hE4 := hE1.pI 577 (i12 + 1)
    have hm4 := m_setI 577 (i12 + 1) hm1
    refine lc_gI hE4 (by decide) h (fun i14 h => ?_)
    exact lc_some hE4 h
theorem l_M_needSign (x1 : Int32) {t0 s0 : g_St} {o : Unit × g_St} (hE : z_M t0 s0) (hm : m_Fix s0) (h : f_M_needSign (some 1) x1 s0 = some o) : ∃ o', f_M_needSign (some 1) x1 t0 = some o' ∧ o'.1 = o.1 ∧ z_M o'.2 o.2 := by
  unfold f_M_needSign at h
  unfold f_M_needSign
  refine lc_c h (fun q hq => lc_nn (l_M_need _ hE hm (er_nn hq))) (fun i1 s2 t2 hc hE1 h => ?_)
  have hm1 := (w_M_need _ _ hm (er_nn hc)).fx hm
  exact lc_some hE1 h
theorem l_M_skip (x1 : Int32) {t0 s0 : g_St} {o : Int32 × g_St} (hE : z_M t0 s0) (hm : m_Fix s0) (h : f_M_skip (some 1) x1 s0 = some o) : ∃ o', f_M_skip (some 1) x1 t0 = some o' ∧ o'.1 = o.1 ∧ z_M o'.2 o.2 := by
  unfold f_M_skip at h
  unfold f_M_skip
  refine lc_c h (fun q hq => lc_nn (l_M_is _ hE hm (er_nn hq))) (fun i1 s2 t2 hc hE1 h => ?_)
  have hm1 := (w_M_is _ _ hm (er_nn hc)).fx hm
  refine lc_gI hE1 (by decide) h (fun i3 h => ?_)
  refine lc_if h (fun h => ?_) (fun h => ?_)
  · refine lc_pI h (fun h => ?_)
    have hE2 := hE1.pI 577 (i3 + 0)
    have hm2 := m_setI 577 (i3 + 0) hm1
    exact lc_rZ h (fun h => lc_some hE2 h)
  · refine lc_pI h (fun h => ?_)
    have hE3 := hE1.pI 577 (i3 + 1)
    have hm3 := m_setI 577 (i3 + 1) hm1
    exact lc_rZ h (fun h => lc_some hE3 h)
theorem l_M_skipSign (x1 : Int32) {t0 s0 : g_St} {o : Int32 × g_St} (hE : z_M t0 s0) (hm : m_Fix s0) (h : f_M_skipSign (some 1) x1 s0 = some o) : ∃ o', f_M_skipSign (some 1) x1 t0 = some o' ∧ o'.1 = o.1 ∧ z_M o'.2 o.2 := by
  unfold f_M_skipSign at h
  unfold f_M_skipSign
  refine lc_c h (fun q hq => lc_nn (l_M_skip _ hE hm (er_nn hq))) (fun i1 s2 t2 hc hE1 h => ?_)
  have hm1 := (w_M_skip _ _ hm (er_nn hc)).fx hm
  exact lc_rZ h (fun h => lc_some hE1 h)
theorem l_M_readOperand_64 (x2 : Int32) (x1s : Int32) (x2s : Int32) {t0 s0 : g_St} {o : Unit × g_St} (hE : z_M t0 s0) (hm : m_Fix s0) (h : f_M_readOperand_64 (some 1) x2 (some 2772) x1s x2s s0 = some o) : ∃ o', f_M_readOperand_64 (some 1) x2 (some 2772) x1s x2s t0 = some o' ∧ o'.1 = o.1 ∧ z_M o'.2 o.2 := by
  unfold f_M_readOperand_64 at h
  unfold f_M_readOperand_64
  refine lc_sI hE (m_arr_of m_k3265) h (fun j1 h => ?_)
  have hE1 := hE.sI 2772 j1 x2s
  have hm1 := m_setAI 2772 j1 x2s hm
  refine lc_gR ((hE1.fx hm1) _ m_k3265).1 (hm1 _ m_k3265).1 h (fun h => ?_)
  refine lc_aI hE1 (m_arr_of m_k3265) h (fun i3 h => ?_)
  refine lc_if h (fun h => ?_) (fun h => ?_)
  · refine lc_c h (fun q hq => lc_nn (l_M_need _ hE1 hm1 (er_nn hq))) (fun i4 s5 t5 hc hE2 h => ?_)
    have hm2 := (w_M_need _ _ hm1 (er_nn hc)).fx hm1
    refine lc_c h (fun q hq => lc_nn (l_M_needSign _ hE2 hm2 (er_nn hq))) (fun v3 s7 t7 hc hE3 h => ?_)
    have hm3 := (w_M_needSign _ _ hm2 (er_nn hc)).fx hm2
    refine lc_c h (fun q hq => lc_nn (l_M_need _ hE3 hm3 (er_nn hq))) (fun i8 s9 t9 hc hE4 h => ?_)
    have hm4 := (w_M_need _ _ hm3 (er_nn hc)).fx hm3
    exact lc_some hE4 h
  · refine lc_gI hE1 (by decide) h (fun i10 h => ?_)
    refine lc_pI h (fun h => ?_)
    have hE5 := hE1.pI 577 (i10 + 1)
    have hm5 := m_setI 577 (i10 + 1) hm1
    exact lc_some hE5 h
theorem l_M_readOperand (x1 : Int32) {t0 s0 : g_St} {o : Unit × g_St} (hE : z_M t0 s0) (hm : m_Fix s0) (h : f_M_readOperand (some 1) x1 s0 = some o) : ∃ o', f_M_readOperand (some 1) x1 t0 = some o' ∧ o'.1 = o.1 ∧ z_M o'.2 o.2 := by
  unfold f_M_readOperand at h
  unfold f_M_readOperand
  refine lc_gI hE (by decide) h (fun i1 h => ?_)
  refine lc_gI hE (by decide) h (fun i2 h => ?_)
  refine lc_pI h (fun h => ?_)
  have hE1 := hE.pI 3073 (i2 + 1)
  have hm1 := m_setI 3073 (i2 + 1) hm
  refine lc_gR ((hE1.fx hm1) _ m_k3329).1 (hm1 _ m_k3329).1 h (fun h => ?_)
  refine lc_sI hE1 (m_arr_of m_k3329) h (fun j2 h => ?_)
  have hE2 := hE1.sI 2836 j2 x1
  have hm2 := m_setAI 2836 j2 x1 hm1
  refine lc_gR ((hE2.fx hm2) _ m_k3393).1 (hm2 _ m_k3393).1 h (fun h => ?_)
  refine lc_gI hE2 (by decide) h (fun i7 h => ?_)
  refine lc_sI hE2 (m_arr_of m_k3393) h (fun j3 h => ?_)
  have hE3 := hE2.sI 2900 j3 i7
  have hm3 := m_setAI 2900 j3 i7 hm2
  refine lc_gR ((hE3.fx hm3) _ m_k3265).1 (hm3 _ m_k3265).1 h (fun h => ?_)
  refine lc_c h (fun q hq => lc_nn (l_M_is _ hE3 hm3 (er_nn hq))) (fun i10 s11 t11 hc hE4 h => ?_)
  have hm4 := (w_M_is _ _ hm3 (er_nn hc)).fx hm3
  refine lc_if h (fun h => ?_) (fun h => ?_)
  · refine lc_c h (fun q hq => lc_nn (l_M_is _ hE4 hm4 (er_nn hq))) (fun i12 s13 t13 hc hE5 h => ?_)
    have hm5 := (w_M_is _ _ hm4 (er_nn hc)).fx hm4
    refine lc_if h (fun h => ?_) (fun h => ?_)
    · exact l_M_readOperand_64 _ _ _ hE5 hm5 h
    · exact l_M_readOperand_64 _ _ _ hE5 hm5 h
  · exact l_M_readOperand_64 _ _ _ hE4 hm4 h
theorem l_M_readExpression_95 {k36 k36' : Option Nat → Int32 → Int32 → Int32 → g_St → Option (Int32 × g_St)} (hk36 : ∀ (y1 : Int32) (y2 : Int32) (y3 : Int32) {t s : g_St} {o : Int32 × g_St}, z_M t s → m_Fix s → k36 (some 1) y1 y2 y3 s = some o → ∃ o', k36' (some 1) y1 y2 y3 t = some o' ∧ o'.1 = o.1 ∧ z_M o'.2 o.2) (x1 : Int32) (x2 : Int32) (x0s : Int32) {t0 s0 : g_St} {o : Int32 × g_St} (hE : z_M t0 s0) (hm : m_Fix s0) (h : f_M_readExpression_95 k36 (some 1) x1 x2 x0s s0 = some o) : ∃ o', f_M_readExpression_95 k36' (some 1) x1 x2 x0s t0 = some o' ∧ o'.1 = o.1 ∧ z_M o'.2 o.2 := by
  unfold f_M_readExpression_95 at h
  unfold f_M_readExpression_95
  refine lc_if h (fun h => ?_) (fun h => ?_)
  · exact hk36 _ _ _ hE hm h
  · refine lc_c h (fun q hq => lc_nn (l_M_isSign _ hE hm (er_nn hq))) (fun i1 s2 t2 hc hE1 h => ?_)
    have hm1 := (w_M_isSign _ _ hm (er_nn hc)).fx hm
    refine lc_if h (fun h => ?_) (fun h => ?_)
    · refine lc_gI hE1 (by decide) h (fun i3 h => ?_)
      refine lc_pI h (fun h => ?_)
      have hE2 := hE1.pI 577 (i3 + 1)
      have hm2 := m_setI 577 (i3 + 1) hm1
      exact hk36 _ _ _ hE2 hm2 h
    · refine lc_gI hE1 (by decide) h (fun i5 h => ?_)
      refine lc_pI h (fun h => ?_)
      have hE3 := hE1.pI 577 (i5 + 1)
      have hm3 := m_setI 577 (i5 + 1) hm1
      exact hk36 _ _ _ hE3 hm3 h
theorem l_M_readExpression_36 : ∀ (n : Nat) (x1 : Int32) (x2 : Int32) (x3 : Int32) {t0 s0 : g_St} {o : Int32 × g_St}, z_M t0 s0 → m_Fix s0 → f_M_readExpression_36 n (some 1) x1 x2 x3 s0 = some o → ∃ o', f_M_readExpression_36 n (some 1) x1 x2 x3 t0 = some o' ∧ o'.1 = o.1 ∧ z_M o'.2 o.2 := by
  intro n
  induction n with
  | zero =>
    intro x1 x2 x3 t0 s0 o hE hm h
    rw [f_M_readExpression_36] at h
    cases h
  | succ n ih =>
    intro x1 x2 x3 t0 s0 o hE hm h
    rw [f_M_readExpression_36] at h
    rw [f_M_readExpression_36]
    refine lc_if h (fun h => ?_) (fun h => ?_)
    · exact lc_some hE h
    · refine lc_c h (fun q hq => lc_nn (l_M_bad hE hm (er_nn hq))) (fun i1 s2 t2 hc hE1 h => ?_)
      have hm1 := (w_M_bad _ hm (er_nn hc)).fx hm
      refine lc_if h (fun h => ?_) (fun h => ?_)
      · refine lc_c h (fun q hq => lc_nn (l_M_readOperand _ hE1 hm1 (er_nn hq))) (fun v2 s4 t4 hc hE2 h => ?_)
        have hm2 := (w_M_readOperand _ _ hm1 (er_nn hc)).fx hm1
        refine lc_gR ((hE2.fx hm2) _ m_k3201).1 (hm2 _ m_k3201).1 h (fun h => ?_)
        refine lc_aI hE2 (m_arr_of m_k3201) h (fun i6 h => ?_)
        refine lc_sI hE2 (m_arr_of m_k3201) h (fun j3 h => ?_)
        have hE3 := hE2.sI 2708 j3 (i6 + 1)
        have hm3 := m_setAI 2708 j3 (i6 + 1) hm2
        refine lc_gR ((hE3.fx hm3) _ m_k3201).1 (hm3 _ m_k3201).1 h (fun h => ?_)
        refine lc_aI hE3 (m_arr_of m_k3201) h (fun i9 h => ?_)
        refine lc_if h (fun h => ?_) (fun h => ?_)
        · exact l_M_readExpression_95 ih _ _ _ hE3 hm3 h
        · refine lc_c h (fun q hq => lc_nn (l_M_isSign _ hE3 hm3 (er_nn hq))) (fun i10 s11 t11 hc hE4 h => ?_)
          have hm4 := (w_M_isSign _ _ hm3 (er_nn hc)).fx hm3
          refine lc_if h (fun h => ?_) (fun h => ?_)
          · refine lc_c h (fun q hq => lc_nn (l_M_isSign _ hE4 hm4 (er_nn hq))) (fun i12 s13 t13 hc hE5 h => ?_)
            have hm5 := (w_M_isSign _ _ hm4 (er_nn hc)).fx hm4
            refine lc_if h (fun h => ?_) (fun h => ?_)
            · exact l_M_readExpression_95 ih _ _ _ hE5 hm5 h
            · exact l_M_readExpression_95 ih _ _ _ hE5 hm5 h
          · exact l_M_readExpression_95 ih _ _ _ hE4 hm4 h
      · exact lc_some hE1 h
theorem l_M_readExpression  {t0 s0 : g_St} {o : Int32 × g_St} (hE : z_M t0 s0) (hm : m_Fix s0) (h : f_M_readExpression (some 1) s0 = some o) : ∃ o', f_M_readExpression (some 1) t0 = some o' ∧ o'.1 = o.1 ∧ z_M o'.2 o.2 := by
  unfold f_M_readExpression at h
  unfold f_M_readExpression
  refine lc_gI hE (by decide) h (fun i1 h => ?_)
  refine lc_gI hE (by decide) h (fun i2 h => ?_)
  refine lc_pI h (fun h => ?_)
  have hE1 := hE.pI 3009 (i2 + 1)
  have hm1 := m_setI 3009 (i2 + 1) hm
  refine lc_gR ((hE1.fx hm1) _ m_k3137).1 (hm1 _ m_k3137).1 h (fun h => ?_)
  refine lc_gI hE1 (by decide) h (fun i5 h => ?_)
  refine lc_sI hE1 (m_arr_of m_k3137) h (fun j2 h => ?_)
  have hE2 := hE1.sI 2644 j2 i5
  have hm2 := m_setAI 2644 j2 i5 hm1
  refine lc_gR ((hE2.fx hm2) _ m_k3201).1 (hm2 _ m_k3201).1 h (fun h => ?_)
  refine lc_sI hE2 (m_arr_of m_k3201) h (fun j3 h => ?_)
  have hE3 := hE2.sI 2708 j3 0
  have hm3 := m_setAI 2708 j3 0 hm2
  exact l_M_readExpression_36 _ _ _ _ hE3 hm3 h
theorem l_M_readItem_165 (x1 : Int32) {t0 s0 : g_St} {o : Unit × g_St} (hE : z_M t0 s0) (hm : m_Fix s0) (h : f_M_readItem_165 (some 1) x1 s0 = some o) : ∃ o', f_M_readItem_165 (some 1) x1 t0 = some o' ∧ o'.1 = o.1 ∧ z_M o'.2 o.2 := by
  unfold f_M_readItem_165 at h
  unfold f_M_readItem_165
  refine lc_gI hE (by decide) h (fun i1 h => ?_)
  refine lc_pI h (fun h => ?_)
  have hE1 := hE.pI 2817 (i1 + 1)
  have hm1 := m_setI 2817 (i1 + 1) hm
  refine lc_gR ((hE1.fx hm1) _ m_k2433).1 (hm1 _ m_k2433).1 h (fun h => ?_)
  refine lc_aI hE1 (m_arr_of m_k2433) h (fun i4 h => ?_)
  refine lc_sI hE1 (m_arr_of m_k2433) h (fun j2 h => ?_)
  have hE2 := hE1.sI 2196 j2 (i4 + 1)
  have hm2 := m_setAI 2196 j2 (i4 + 1) hm1
  exact lc_some hE2 h
theorem l_M_readItem_130 (x1 : Int32) (x2 : Int32) {t0 s0 : g_St} {o : Unit × g_St} (hE : z_M t0 s0) (hm : m_Fix s0) (h : f_M_readItem_130 (some 1) x1 x2 s0 = some o) : ∃ o', f_M_readItem_130 (some 1) x1 x2 t0 = some o' ∧ o'.1 = o.1 ∧ z_M o'.2 o.2 := by
  unfold f_M_readItem_130 at h
  unfold f_M_readItem_130
  refine lc_if h (fun h => ?_) (fun h => ?_)
  · exact l_M_readItem_165 _ hE hm h
  · refine lc_if h (fun h => ?_) (fun h => ?_)
    · exact l_M_readItem_165 _ hE hm h
    · refine lc_c h (fun q hq => lc_nn (l_M_needSign _ hE hm (er_nn hq))) (fun v1 s2 t2 hc hE1 h => ?_)
      have hm1 := (w_M_needSign _ _ hm (er_nn hc)).fx hm
      refine lc_gR ((hE1.fx hm1) _ m_k2881).1 (hm1 _ m_k2881).1 h (fun h => ?_)
      refine lc_gI hE1 (by decide) h (fun i4 h => ?_)
      refine lc_sI hE1 (m_arr_of m_k2881) h (fun j2 h => ?_)
      have hE2 := hE1.sI 2516 j2 x2
      have hm2 := m_setAI 2516 j2 x2 hm1
      refine lc_gR ((hE2.fx hm2) _ m_k2753).1 (hm2 _ m_k2753).1 h (fun h => ?_)
      refine lc_sZ hE2 (m_arr_of m_k2753) h (fun j3 h => ?_)
      have hE3 := hE2.sI 159 j3 1
      have hm3 := m_setAI 159 j3 1 hm2
      exact l_M_readItem_165 _ hE3 hm3 h
theorem l_M_readItem_115 (x1 : Int32) {t0 s0 : g_St} {o : Unit × g_St} (hE : z_M t0 s0) (hm : m_Fix s0) (h : f_M_readItem_115 (some 1) x1 s0 = some o) : ∃ o', f_M_readItem_115 (some 1) x1 t0 = some o' ∧ o'.1 = o.1 ∧ z_M o'.2 o.2 := by
  unfold f_M_readItem_115 at h
  unfold f_M_readItem_115
  refine lc_gR ((hE.fx hm) _ m_k2945).1 (hm _ m_k2945).1 h (fun h => ?_)
  refine lc_gI hE (by decide) h (fun i2 h => ?_)
  refine lc_c h (fun q hq => lc_nn (l_M_readExpression hE hm (er_nn hq))) (fun i3 s4 t4 hc hE1 h => ?_)
  have hm1 := (w_M_readExpression _ hm (er_nn hc)).fx hm
  refine lc_sI hE1 (m_arr_of m_k2945) h (fun j2 h => ?_)
  have hE2 := hE1.sI 2580 j2 i3
  have hm2 := m_setAI 2580 j2 i3 hm1
  exact l_M_readItem_130 _ _ hE2 hm2 h
theorem l_M_readItem (x1 : Int32) {t0 s0 : g_St} {o : Unit × g_St} (hE : z_M t0 s0) (hm : m_Fix s0) (h : f_M_readItem (some 1) x1 s0 = some o) : ∃ o', f_M_readItem (some 1) x1 t0 = some o' ∧ o'.1 = o.1 ∧ z_M o'.2 o.2 := by
  unfold f_M_readItem at h
  unfold f_M_readItem
  refine lc_gR ((hE.fx hm) _ m_k641).1 (hm _ m_k641).1 h (fun h => ?_)
  refine lc_gI hE (by decide) h (fun i2 h => ?_)
  refine lc_aI hE (m_arr_of m_k641) h (fun i3 h => ?_)
  refine lc_gR ((hE.fx hm) _ m_k2881).1 (hm _ m_k2881).1 h (fun h => ?_)
  refine lc_gI hE (by decide) h (fun i5 h => ?_)
  refine lc_sI hE (m_arr_of m_k2881) h (fun j1 h => ?_)
  have hE1 := hE.sI 2516 j1 0
  have hm1 := m_setAI 2516 j1 0 hm
  refine lc_c h (fun q hq => lc_nn (l_M_is _ hE1 hm1 (er_nn hq))) (fun i7 s8 t8 hc hE2 h => ?_)
  have hm2 := (w_M_is _ _ hm1 (er_nn hc)).fx hm1
  refine lc_if h (fun h => ?_) (fun h => ?_)
  · refine lc_c h (fun q hq => lc_nn (l_M_bad hE2 hm2 (er_nn hq))) (fun i9 s10 t10 hc hE3 h => ?_)
    have hm3 := (w_M_bad _ hm2 (er_nn hc)).fx hm2
    refine lc_if h (fun h => ?_) (fun h => ?_)
    · refine lc_if h (fun h => ?_) (fun h => ?_)
      · exact l_M_readItem_115 _ hE3 hm3 h
      · refine lc_if h (fun h => ?_) (fun h => ?_)
        · exact l_M_readItem_115 _ hE3 hm3 h
        · refine lc_gI hE3 (by decide) h (fun i11 h => ?_)
          refine lc_pI h (fun h => ?_)
          have hE4 := hE3.pI 577 (i11 + 1)
          have hm4 := m_setI 577 (i11 + 1) hm3
          refine lc_c h (fun q hq => lc_nn (l_M_needSign _ hE4 hm4 (er_nn hq))) (fun v5 s14 t14 hc hE5 h => ?_)
          have hm5 := (w_M_needSign _ _ hm4 (er_nn hc)).fx hm4
          refine lc_gR ((hE5.fx hm5) _ m_k2945).1 (hm5 _ m_k2945).1 h (fun h => ?_)
          refine lc_gI hE5 (by decide) h (fun i16 h => ?_)
          refine lc_c h (fun q hq => lc_nn (l_M_readExpression hE5 hm5 (er_nn hq))) (fun i17 s18 t18 hc hE6 h => ?_)
          have hm6 := (w_M_readExpression _ hm5 (er_nn hc)).fx hm5
          refine lc_sI hE6 (m_arr_of m_k2945) h (fun j7 h => ?_)
          have hE7 := hE6.sI 2580 j7 i17
          have hm7 := m_setAI 2580 j7 i17 hm6
          exact l_M_readItem_130 _ _ hE7 hm7 h
    · exact l_M_readItem_115 _ hE3 hm3 h
  · refine lc_gI hE2 (by decide) h (fun i20 h => ?_)
    refine lc_pI h (fun h => ?_)
    have hE8 := hE2.pI 577 (i20 + 1)
    have hm8 := m_setI 577 (i20 + 1) hm2
    refine lc_c h (fun q hq => lc_nn (l_M_needSign _ hE8 hm8 (er_nn hq))) (fun v9 s23 t23 hc hE9 h => ?_)
    have hm9 := (w_M_needSign _ _ hm8 (er_nn hc)).fx hm8
    refine lc_c h (fun q hq => lc_nn (l_M_needSign _ hE9 hm9 (er_nn hq))) (fun v10 s25 t25 hc hE10 h => ?_)
    have hm10 := (w_M_needSign _ _ hm9 (er_nn hc)).fx hm9
    refine lc_gR ((hE10.fx hm10) _ m_k2945).1 (hm10 _ m_k2945).1 h (fun h => ?_)
    refine lc_gI hE10 (by decide) h (fun i27 h => ?_)
    refine lc_sI hE10 (m_arr_of m_k2945) h (fun j11 h => ?_)
    have hE11 := hE10.sI 2580 j11 (-1)
    have hm11 := m_setAI 2580 j11 (-1) hm10
    exact l_M_readItem_130 _ _ hE11 hm11 h
theorem l_M_readSource  {t0 s0 : g_St} {o : Unit × g_St} (hE : z_M t0 s0) (hm : m_Fix s0) (h : f_M_readSource (some 1) s0 = some o) : ∃ o', f_M_readSource (some 1) t0 = some o' ∧ o'.1 = o.1 ∧ z_M o'.2 o.2 := by
  unfold f_M_readSource at h
  unfold f_M_readSource
  refine lc_gR ((hE.fx hm) _ m_k3649).1 (hm _ m_k3649).1 h (fun h => ?_)
  refine lc_gI hE (by decide) h (fun i2 h => ?_)
  refine lc_c h (fun q hq => lc_nn (l_M_need _ hE hm (er_nn hq))) (fun i3 s4 t4 hc hE1 h => ?_)
  have hm1 := (w_M_need _ _ hm (er_nn hc)).fx hm
  refine lc_sI hE1 (m_arr_of m_k3649) h (fun j2 h => ?_)
  have hE2 := hE1.sI 3092 j2 i3
  have hm2 := m_setAI 3092 j2 i3 hm1
  refine lc_gR ((hE2.fx hm2) _ m_k3713).1 (hm2 _ m_k3713).1 h (fun h => ?_)
  refine lc_gI hE2 (by decide) h (fun i7 h => ?_)
  refine lc_c h (fun q hq => lc_nn (l_M_need _ hE2 hm2 (er_nn hq))) (fun i8 s9 t9 hc hE3 h => ?_)
  have hm3 := (w_M_need _ _ hm2 (er_nn hc)).fx hm2
  refine lc_sI hE3 (m_arr_of m_k3713) h (fun j4 h => ?_)
  have hE4 := hE3.sI 3156 j4 i8
  have hm4 := m_setAI 3156 j4 i8 hm3
  refine lc_gI hE4 (by decide) h (fun i11 h => ?_)
  refine lc_pI h (fun h => ?_)
  have hE5 := hE4.pI 3585 (i11 + 1)
  have hm5 := m_setI 3585 (i11 + 1) hm4
  exact lc_some hE5 h
theorem l_M_readCondition_144 (x2 : Int32) {t0 s0 : g_St} {o : Int32 × g_St} (hE : z_M t0 s0) (hm : m_Fix s0) (h : f_M_readCondition_144 (some 1) x2 s0 = some o) : ∃ o', f_M_readCondition_144 (some 1) x2 t0 = some o' ∧ o'.1 = o.1 ∧ z_M o'.2 o.2 := by
  unfold f_M_readCondition_144 at h
  unfold f_M_readCondition_144
  refine lc_gR ((hE.fx hm) _ m_k4097).1 (hm _ m_k4097).1 h (fun h => ?_)
  refine lc_c h (fun q hq => lc_nn (l_M_readExpression hE hm (er_nn hq))) (fun i2 s3 t3 hc hE1 h => ?_)
  have hm1 := (w_M_readExpression _ hm (er_nn hc)).fx hm
  refine lc_sI hE1 (m_arr_of m_k4097) h (fun j2 h => ?_)
  have hE2 := hE1.sI 3476 j2 i2
  have hm2 := m_setAI 3476 j2 i2 hm1
  exact lc_some hE2 h
theorem l_M_readCondition  {t0 s0 : g_St} {o : Int32 × g_St} (hE : z_M t0 s0) (hm : m_Fix s0) (h : f_M_readCondition (some 1) s0 = some o) : ∃ o', f_M_readCondition (some 1) t0 = some o' ∧ o'.1 = o.1 ∧ z_M o'.2 o.2 := by
  unfold f_M_readCondition at h
  unfold f_M_readCondition
  refine lc_c h (fun q hq => lc_nn (l_M_readExpression hE hm (er_nn hq))) (fun i1 s2 t2 hc hE1 h => ?_)
  have hm1 := (w_M_readExpression _ hm (er_nn hc)).fx hm
  refine lc_gI hE1 (by decide) h (fun i3 h => ?_)
  refine lc_gI hE1 (by decide) h (fun i4 h => ?_)
  refine lc_pI h (fun h => ?_)
  have hE2 := hE1.pI 3841 (i4 + 1)
  have hm2 := m_setI 3841 (i4 + 1) hm1
  refine lc_gR ((hE2.fx hm2) _ m_k4033).1 (hm2 _ m_k4033).1 h (fun h => ?_)
  refine lc_sI hE2 (m_arr_of m_k4033) h (fun j3 h => ?_)
  have hE3 := hE2.sI 3412 j3 i1
  have hm3 := m_setAI 3412 j3 i1 hm2
  refine lc_c h (fun q hq => lc_nn (l_M_skip _ hE3 hm3 (er_nn hq))) (fun i8 s9 t9 hc hE4 h => ?_)
  have hm4 := (w_M_skip _ _ hm3 (er_nn hc)).fx hm3
  refine lc_if h (fun h => ?_) (fun h => ?_)
  · refine lc_gR ((hE4.fx hm4) _ m_k3905).1 (hm4 _ m_k3905).1 h (fun h => ?_)
    refine lc_sI hE4 (m_arr_of m_k3905) h (fun j5 h => ?_)
    have hE5 := hE4.sI 3284 j5 0
    have hm5 := m_setAI 3284 j5 0 hm4
    refine lc_gR ((hE5.fx hm5) _ m_k3969).1 (hm5 _ m_k3969).1 h (fun h => ?_)
    refine lc_gR ((hE5.fx hm5) _ m_k641).1 (hm5 _ m_k641).1 h (fun h => ?_)
    refine lc_gI hE5 (by decide) h (fun i14 h => ?_)
    refine lc_aI hE5 (m_arr_of m_k641) h (fun i15 h => ?_)
    refine lc_sI hE5 (m_arr_of m_k3969) h (fun j6 h => ?_)
    have hE6 := hE5.sI 3348 j6 i15
    have hm6 := m_setAI 3348 j6 i15 hm5
    refine lc_c h (fun q hq => lc_nn (l_M_isSign _ hE6 hm6 (er_nn hq))) (fun i17 s18 t18 hc hE7 h => ?_)
    have hm7 := (w_M_isSign _ _ hm6 (er_nn hc)).fx hm6
    refine lc_if h (fun h => ?_) (fun h => ?_)
    · refine lc_c h (fun q hq => lc_nn (l_M_isSign _ hE7 hm7 (er_nn hq))) (fun i21 s22 t22 hc hE8 h => ?_)
      have hm8 := (w_M_isSign _ _ hm7 (er_nn hc)).fx hm7
      refine lc_if h (fun h => ?_) (fun h => ?_)
      · refine lc_c h (fun q hq => lc_nn (l_M_isSign _ hE8 hm8 (er_nn hq))) (fun i25 s26 t26 hc hE9 h => ?_)
        have hm9 := (w_M_isSign _ _ hm8 (er_nn hc)).fx hm8
        refine lc_if h (fun h => ?_) (fun h => ?_)
        · refine lc_c h (fun q hq => lc_nn (l_M_is _ hE9 hm9 (er_nn hq))) (fun i29 s30 t30 hc hE10 h => ?_)
          have hm10 := (w_M_is _ _ hm9 (er_nn hc)).fx hm9
          refine lc_if h (fun h => ?_) (fun h => ?_)
          · refine lc_c h (fun q hq => lc_nn (l_M_bad hE10 hm10 (er_nn hq))) (fun i31 s32 t32 hc hE11 h => ?_)
            have hm11 := (w_M_bad _ hm10 (er_nn hc)).fx hm10
            refine lc_if h (fun h => ?_) (fun h => ?_)
            · refine lc_gR ((hE11.fx hm11) _ m_k705).1 (hm11 _ m_k705).1 h (fun h => ?_)
              refine lc_gI hE11 (by decide) h (fun i34 h => ?_)
              refine lc_aI hE11 (m_arr_of m_k705) h (fun i35 h => ?_)
              refine lc_c h (fun q hq => lc_nn (l_M_note _ _ hE11 hm11 (er_nn hq))) (fun v12 s37 t37 hc hE12 h => ?_)
              have hm12 := (w_M_note _ _ _ hm11 (er_nn hc)).fx hm11
              exact l_M_readCondition_144 _ hE12 hm12 h
            · exact l_M_readCondition_144 _ hE11 hm11 h
          · refine lc_gI hE10 (by decide) h (fun i38 h => ?_)
            refine lc_pI h (fun h => ?_)
            have hE13 := hE10.pI 577 (i38 + 1)
            have hm13 := m_setI 577 (i38 + 1) hm10
            exact l_M_readCondition_144 _ hE13 hm13 h
        · refine lc_gI hE9 (by decide) h (fun i27 h => ?_)
          refine lc_pI h (fun h => ?_)
          have hE14 := hE9.pI 577 (i27 + 1)
          have hm14 := m_setI 577 (i27 + 1) hm9
          exact l_M_readCondition_144 _ hE14 hm14 h
      · refine lc_gI hE8 (by decide) h (fun i23 h => ?_)
        refine lc_pI h (fun h => ?_)
        have hE15 := hE8.pI 577 (i23 + 1)
        have hm15 := m_setI 577 (i23 + 1) hm8
        exact l_M_readCondition_144 _ hE15 hm15 h
    · refine lc_gI hE7 (by decide) h (fun i19 h => ?_)
      refine lc_pI h (fun h => ?_)
      have hE16 := hE7.pI 577 (i19 + 1)
      have hm16 := m_setI 577 (i19 + 1) hm7
      exact l_M_readCondition_144 _ hE16 hm16 h
  · refine lc_c h (fun q hq => lc_nn (l_M_need _ hE4 hm4 (er_nn hq))) (fun i40 s41 t41 hc hE17 h => ?_)
    have hm17 := (w_M_need _ _ hm4 (er_nn hc)).fx hm4
    refine lc_gR ((hE17.fx hm17) _ m_k3905).1 (hm17 _ m_k3905).1 h (fun h => ?_)
    refine lc_sI hE17 (m_arr_of m_k3905) h (fun j18 h => ?_)
    have hE18 := hE17.sI 3284 j18 1
    have hm18 := m_setAI 3284 j18 1 hm17
    exact lc_some hE18 h
theorem l_M_readNotExists_201 (x1 : Int32) {t0 s0 : g_St} {o : Int32 × g_St} (hE : z_M t0 s0) (hm : m_Fix s0) (h : f_M_readNotExists_201 (some 1) x1 s0 = some o) : ∃ o', f_M_readNotExists_201 (some 1) x1 t0 = some o' ∧ o'.1 = o.1 ∧ z_M o'.2 o.2 := by
  unfold f_M_readNotExists_201 at h
  unfold f_M_readNotExists_201
  refine lc_c h (fun q hq => lc_nn (l_M_needSign _ hE hm (er_nn hq))) (fun v1 s2 t2 hc hE1 h => ?_)
  have hm1 := (w_M_needSign _ _ hm (er_nn hc)).fx hm
  exact lc_some hE1 h
theorem l_M_readNotExists_133 : ∀ (n : Nat) (x1 : Int32) (x2 : Int32) {t0 s0 : g_St} {o : Int32 × g_St}, z_M t0 s0 → m_Fix s0 → f_M_readNotExists_133 n (some 1) x1 x2 s0 = some o → ∃ o', f_M_readNotExists_133 n (some 1) x1 x2 t0 = some o' ∧ o'.1 = o.1 ∧ z_M o'.2 o.2 := by
  intro n
  induction n with
  | zero =>
    intro x1 x2 t0 s0 o hE hm h
    rw [f_M_readNotExists_133] at h
    cases h
  | succ n ih =>
    intro x1 x2 t0 s0 o hE hm h
    rw [f_M_readNotExists_133] at h
    rw [f_M_readNotExists_133]
    refine lc_if h (fun h => ?_) (fun h => ?_)
    · exact l_M_readNotExists_201 _ hE hm h
    · refine lc_c h (fun q hq => lc_nn (l_M_bad hE hm (er_nn hq))) (fun i1 s2 t2 hc hE1 h => ?_)
      have hm1 := (w_M_bad _ hm (er_nn hc)).fx hm
      refine lc_if h (fun h => ?_) (fun h => ?_)
      · refine lc_gR ((hE1.fx hm1) _ m_k4289).1 (hm1 _ m_k4289).1 h (fun h => ?_)
        refine lc_gR ((hE1.fx hm1) _ m_k4225).1 (hm1 _ m_k4225).1 h (fun h => ?_)
        refine lc_aI hE1 (m_arr_of m_k4225) h (fun i5 h => ?_)
        refine lc_c h (fun q hq => lc_nn (l_M_readCondition hE1 hm1 (er_nn hq))) (fun i6 s7 t7 hc hE2 h => ?_)
        have hm2 := (w_M_readCondition _ hm1 (er_nn hc)).fx hm1
        refine lc_sI hE2 (m_arr_of m_k4289) h (fun j3 h => ?_)
        have hE3 := hE2.sI 3668 j3 i6
        have hm3 := m_setAI 3668 j3 i6 hm2
        refine lc_gR ((hE3.fx hm3) _ m_k4225).1 (hm3 _ m_k4225).1 h (fun h => ?_)
        refine lc_aI hE3 (m_arr_of m_k4225) h (fun i10 h => ?_)
        refine lc_sI hE3 (m_arr_of m_k4225) h (fun j4 h => ?_)
        have hE4 := hE3.sI 3604 j4 (i10 + 1)
        have hm4 := m_setAI 3604 j4 (i10 + 1) hm3
        refine lc_gR ((hE4.fx hm4) _ m_k4225).1 (hm4 _ m_k4225).1 h (fun h => ?_)
        refine lc_aI hE4 (m_arr_of m_k4225) h (fun i13 h => ?_)
        refine lc_if h (fun h => ?_) (fun h => ?_)
        · exact ih _ _ hE4 hm4 h
        · refine lc_c h (fun q hq => lc_nn (l_M_skip _ hE4 hm4 (er_nn hq))) (fun i14 s15 t15 hc hE5 h => ?_)
          have hm5 := (w_M_skip _ _ hm4 (er_nn hc)).fx hm4
          refine lc_if h (fun h => ?_) (fun h => ?_)
          · exact ih _ _ hE5 hm5 h
          · exact ih _ _ hE5 hm5 h
      · exact l_M_readNotExists_201 _ hE1 hm1 h
theorem l_M_readNotExists_95 (x1 : Int32) {t0 s0 : g_St} {o : Int32 × g_St} (hE : z_M t0 s0) (hm : m_Fix s0) (h : f_M_readNotExists_95 (some 1) x1 s0 = some o) : ∃ o', f_M_readNotExists_95 (some 1) x1 t0 = some o' ∧ o'.1 = o.1 ∧ z_M o'.2 o.2 := by
  unfold f_M_readNotExists_95 at h
  unfold f_M_readNotExists_95
  refine lc_c h (fun q hq => lc_nn (l_M_need _ hE hm (er_nn hq))) (fun i1 s2 t2 hc hE1 h => ?_)
  have hm1 := (w_M_need _ _ hm (er_nn hc)).fx hm
  refine lc_c h (fun q hq => lc_nn (l_M_need _ hE1 hm1 (er_nn hq))) (fun i3 s4 t4 hc hE2 h => ?_)
  have hm2 := (w_M_need _ _ hm1 (er_nn hc)).fx hm1
  refine lc_gR ((hE2.fx hm2) _ m_k4161).1 (hm2 _ m_k4161).1 h (fun h => ?_)
  refine lc_gI hE2 (by decide) h (fun i6 h => ?_)
  refine lc_sI hE2 (m_arr_of m_k4161) h (fun j3 h => ?_)
  have hE3 := hE2.sI 3540 j3 i6
  have hm3 := m_setAI 3540 j3 i6 hm2
  refine lc_c h (fun q hq => lc_nn (l_M_readSource hE3 hm3 (er_nn hq))) (fun v4 s9 t9 hc hE4 h => ?_)
  have hm4 := (w_M_readSource _ hm3 (er_nn hc)).fx hm3
  refine lc_c h (fun q hq => lc_nn (l_M_skip _ hE4 hm4 (er_nn hq))) (fun i10 s11 t11 hc hE5 h => ?_)
  have hm5 := (w_M_skip _ _ hm4 (er_nn hc)).fx hm4
  refine lc_if h (fun h => ?_) (fun h => ?_)
  · exact l_M_readNotExists_201 _ hE5 hm5 h
  · exact l_M_readNotExists_133 _ _ _ hE5 hm5 h
theorem l_M_readNotExists  {t0 s0 : g_St} {o : Int32 × g_St} (hE : z_M t0 s0) (hm : m_Fix s0) (h : f_M_readNotExists (some 1) s0 = some o) : ∃ o', f_M_readNotExists (some 1) t0 = some o' ∧ o'.1 = o.1 ∧ z_M o'.2 o.2 := by
  unfold f_M_readNotExists at h
  unfold f_M_readNotExists
  refine lc_gI hE (by decide) h (fun i1 h => ?_)
  refine lc_pI h (fun h => ?_)
  have hE1 := hE.pI 577 (i1 + 1)
  have hm1 := m_setI 577 (i1 + 1) hm
  refine lc_gI hE1 (by decide) h (fun i3 h => ?_)
  refine lc_gI hE1 (by decide) h (fun i4 h => ?_)
  refine lc_pI h (fun h => ?_)
  have hE2 := hE1.pI 3841 (i4 + 1)
  have hm2 := m_setI 3841 (i4 + 1) hm1
  refine lc_gR ((hE2.fx hm2) _ m_k3905).1 (hm2 _ m_k3905).1 h (fun h => ?_)
  refine lc_sI hE2 (m_arr_of m_k3905) h (fun j3 h => ?_)
  have hE3 := hE2.sI 3284 j3 2
  have hm3 := m_setAI 3284 j3 2 hm2
  refine lc_gR ((hE3.fx hm3) _ m_k4225).1 (hm3 _ m_k4225).1 h (fun h => ?_)
  refine lc_sI hE3 (m_arr_of m_k4225) h (fun j4 h => ?_)
  have hE4 := hE3.sI 3604 j4 0
  have hm4 := m_setAI 3604 j4 0 hm3
  refine lc_c h (fun q hq => lc_nn (l_M_need _ hE4 hm4 (er_nn hq))) (fun i10 s11 t11 hc hE5 h => ?_)
  have hm5 := (w_M_need _ _ hm4 (er_nn hc)).fx hm4
  refine lc_c h (fun q hq => lc_nn (l_M_needSign _ hE5 hm5 (er_nn hq))) (fun v6 s13 t13 hc hE6 h => ?_)
  have hm6 := (w_M_needSign _ _ hm5 (er_nn hc)).fx hm5
  refine lc_c h (fun q hq => lc_nn (l_M_need _ hE6 hm6 (er_nn hq))) (fun i14 s15 t15 hc hE7 h => ?_)
  have hm7 := (w_M_need _ _ hm6 (er_nn hc)).fx hm6
  refine lc_c h (fun q hq => lc_nn (l_M_is _ hE7 hm7 (er_nn hq))) (fun i16 s17 t17 hc hE8 h => ?_)
  have hm8 := (w_M_is _ _ hm7 (er_nn hc)).fx hm7
  refine lc_if h (fun h => ?_) (fun h => ?_)
  · exact l_M_readNotExists_95 _ hE8 hm8 h
  · refine lc_gR ((hE8.fx hm8) _ m_k769).1 (hm8 _ m_k769).1 h (fun h => ?_)
    refine lc_gI hE8 (by decide) h (fun i19 h => ?_)
    refine lc_aL hE8 (m_arr_of m_k769) h (fun j20 h => ?_)
    refine lc_if h (fun h => ?_) (fun h => ?_)
    · exact l_M_readNotExists_95 _ hE8 hm8 h
    · refine lc_gR ((hE8.fx hm8) _ m_k705).1 (hm8 _ m_k705).1 h (fun h => ?_)
      refine lc_gI hE8 (by decide) h (fun i22 h => ?_)
      refine lc_aI hE8 (m_arr_of m_k705) h (fun i23 h => ?_)
      refine lc_c h (fun q hq => lc_nn (l_M_note _ _ hE8 hm8 (er_nn hq))) (fun v9 s25 t25 hc hE9 h => ?_)
      have hm9 := (w_M_note _ _ _ hm8 (er_nn hc)).fx hm8
      exact l_M_readNotExists_95 _ hE9 hm9 h
theorem l_M_readSelection_255 {k209 k209' : Option Nat → Int32 → Int32 → g_St → Option (Unit × g_St)} (hk209 : ∀ (y1 : Int32) (y2 : Int32) {t s : g_St} {o : Unit × g_St}, z_M t s → m_Fix s → k209 (some 1) y1 y2 s = some o → ∃ o', k209' (some 1) y1 y2 t = some o' ∧ o'.1 = o.1 ∧ z_M o'.2 o.2) (x2 : Int32) (x1s : Int32) (x2s : Int32) {t0 s0 : g_St} {o : Unit × g_St} (hE : z_M t0 s0) (hm : m_Fix s0) (h : f_M_readSelection_255 k209 (some 1) x2 (some 2452) x1s x2s s0 = some o) : ∃ o', f_M_readSelection_255 k209' (some 1) x2 (some 2452) x1s x2s t0 = some o' ∧ o'.1 = o.1 ∧ z_M o'.2 o.2 := by
  unfold f_M_readSelection_255 at h
  unfold f_M_readSelection_255
  refine lc_sI hE (m_arr_of m_k2689) h (fun j1 h => ?_)
  have hE1 := hE.sI 2452 j1 x2s
  have hm1 := m_setAI 2452 j1 x2s hm
  refine lc_gR ((hE1.fx hm1) _ m_k2625).1 (hm1 _ m_k2625).1 h (fun h => ?_)
  refine lc_aI hE1 (m_arr_of m_k2625) h (fun i3 h => ?_)
  refine lc_sI hE1 (m_arr_of m_k2625) h (fun j2 h => ?_)
  have hE2 := hE1.sI 2388 j2 (i3 + 1)
  have hm2 := m_setAI 2388 j2 (i3 + 1) hm1
  refine lc_gR ((hE2.fx hm2) _ m_k2625).1 (hm2 _ m_k2625).1 h (fun h => ?_)
  refine lc_aI hE2 (m_arr_of m_k2625) h (fun i6 h => ?_)
  refine lc_if h (fun h => ?_) (fun h => ?_)
  · exact hk209 _ _ hE2 hm2 h
  · refine lc_c h (fun q hq => lc_nn (l_M_skip _ hE2 hm2 (er_nn hq))) (fun i7 s8 t8 hc hE3 h => ?_)
    have hm3 := (w_M_skip _ _ hm2 (er_nn hc)).fx hm2
    refine lc_if h (fun h => ?_) (fun h => ?_)
    · exact hk209 _ _ hE3 hm3 h
    · exact hk209 _ _ hE3 hm3 h
theorem l_M_readSelection_209 : ∀ (n : Nat) (x2 : Int32) (x3 : Int32) {t0 s0 : g_St} {o : Unit × g_St}, z_M t0 s0 → m_Fix s0 → f_M_readSelection_209 n (some 1) x2 x3 s0 = some o → ∃ o', f_M_readSelection_209 n (some 1) x2 x3 t0 = some o' ∧ o'.1 = o.1 ∧ z_M o'.2 o.2 := by
  intro n
  induction n with
  | zero =>
    intro x2 x3 t0 s0 o hE hm h
    rw [f_M_readSelection_209] at h
    cases h
  | succ n ih =>
    intro x2 x3 t0 s0 o hE hm h
    rw [f_M_readSelection_209] at h
    rw [f_M_readSelection_209]
    refine lc_if h (fun h => ?_) (fun h => ?_)
    · refine lc_gI hE (by decide) h (fun i1 h => ?_)
      refine lc_pI h (fun h => ?_)
      have hE1 := hE.pI 2177 (i1 + 1)
      have hm1 := m_setI 2177 (i1 + 1) hm
      exact lc_some hE1 h
    · refine lc_c h (fun q hq => lc_nn (l_M_bad hE hm (er_nn hq))) (fun i3 s4 t4 hc hE2 h => ?_)
      have hm2 := (w_M_bad _ hm (er_nn hc)).fx hm
      refine lc_if h (fun h => ?_) (fun h => ?_)
      · refine lc_gR ((hE2.fx hm2) _ m_k2689).1 (hm2 _ m_k2689).1 h (fun h => ?_)
        refine lc_gR ((hE2.fx hm2) _ m_k2625).1 (hm2 _ m_k2625).1 h (fun h => ?_)
        refine lc_aI hE2 (m_arr_of m_k2625) h (fun i9 h => ?_)
        refine lc_c h (fun q hq => lc_nn (l_M_is _ hE2 hm2 (er_nn hq))) (fun i10 s11 t11 hc hE3 h => ?_)
        have hm3 := (w_M_is _ _ hm2 (er_nn hc)).fx hm2
        refine lc_if h (fun h => ?_) (fun h => ?_)
        · refine lc_c h (fun q hq => lc_nn (l_M_readCondition hE3 hm3 (er_nn hq))) (fun i12 s13 t13 hc hE4 h => ?_)
          have hm4 := (w_M_readCondition _ hm3 (er_nn hc)).fx hm3
          exact l_M_readSelection_255 ih _ _ _ hE4 hm4 h
        · refine lc_c h (fun q hq => lc_nn (l_M_readNotExists hE3 hm3 (er_nn hq))) (fun i14 s15 t15 hc hE5 h => ?_)
          have hm5 := (w_M_readNotExists _ hm3 (er_nn hc)).fx hm3
          exact l_M_readSelection_255 ih _ _ _ hE5 hm5 h
      · refine lc_gI hE2 (by decide) h (fun i5 h => ?_)
        refine lc_pI h (fun h => ?_)
        have hE6 := hE2.pI 2177 (i5 + 1)
        have hm6 := m_setI 2177 (i5 + 1) hm2
        exact lc_some hE6 h
theorem l_M_readSelection_191 (x2 : Int32) {t0 s0 : g_St} {o : Unit × g_St} (hE : z_M t0 s0) (hm : m_Fix s0) (h : f_M_readSelection_191 (some 1) x2 s0 = some o) : ∃ o', f_M_readSelection_191 (some 1) x2 t0 = some o' ∧ o'.1 = o.1 ∧ z_M o'.2 o.2 := by
  unfold f_M_readSelection_191 at h
  unfold f_M_readSelection_191
  refine lc_gR ((hE.fx hm) _ m_k2625).1 (hm _ m_k2625).1 h (fun h => ?_)
  refine lc_sI hE (m_arr_of m_k2625) h (fun j1 h => ?_)
  have hE1 := hE.sI 2388 j1 0
  have hm1 := m_setAI 2388 j1 0 hm
  refine lc_c h (fun q hq => lc_nn (l_M_skip _ hE1 hm1 (er_nn hq))) (fun i3 s4 t4 hc hE2 h => ?_)
  have hm2 := (w_M_skip _ _ hm1 (er_nn hc)).fx hm1
  refine lc_if h (fun h => ?_) (fun h => ?_)
  · refine lc_gI hE2 (by decide) h (fun i5 h => ?_)
    refine lc_pI h (fun h => ?_)
    have hE3 := hE2.pI 2177 (i5 + 1)
    have hm3 := m_setI 2177 (i5 + 1) hm2
    exact lc_some hE3 h
  · exact l_M_readSelection_209 _ _ _ hE2 hm2 h
theorem l_M_readSelection_138 : ∀ (n : Nat) (x2 : Int32) (x3 : Int32) {t0 s0 : g_St} {o : Unit × g_St}, z_M t0 s0 → m_Fix s0 → f_M_readSelection_138 n (some 1) x2 x3 s0 = some o → ∃ o', f_M_readSelection_138 n (some 1) x2 x3 t0 = some o' ∧ o'.1 = o.1 ∧ z_M o'.2 o.2 := by
  intro n
  induction n with
  | zero =>
    intro x2 x3 t0 s0 o hE hm h
    rw [f_M_readSelection_138] at h
    cases h
  | succ n ih =>
    intro x2 x3 t0 s0 o hE hm h
    rw [f_M_readSelection_138] at h
    rw [f_M_readSelection_138]
    refine lc_if h (fun h => ?_) (fun h => ?_)
    · exact l_M_readSelection_191 _ hE hm h
    · refine lc_c h (fun q hq => lc_nn (l_M_bad hE hm (er_nn hq))) (fun i1 s2 t2 hc hE1 h => ?_)
      have hm1 := (w_M_bad _ hm (er_nn hc)).fx hm
      refine lc_if h (fun h => ?_) (fun h => ?_)
      · refine lc_c h (fun q hq => lc_nn (l_M_readSource hE1 hm1 (er_nn hq))) (fun v2 s4 t4 hc hE2 h => ?_)
        have hm2 := (w_M_readSource _ hm1 (er_nn hc)).fx hm1
        refine lc_gR ((hE2.fx hm2) _ m_k2561).1 (hm2 _ m_k2561).1 h (fun h => ?_)
        refine lc_aI hE2 (m_arr_of m_k2561) h (fun i6 h => ?_)
        refine lc_sI hE2 (m_arr_of m_k2561) h (fun j3 h => ?_)
        have hE3 := hE2.sI 2324 j3 (i6 + 1)
        have hm3 := m_setAI 2324 j3 (i6 + 1) hm2
        refine lc_gR ((hE3.fx hm3) _ m_k2561).1 (hm3 _ m_k2561).1 h (fun h => ?_)
        refine lc_aI hE3 (m_arr_of m_k2561) h (fun i9 h => ?_)
        refine lc_if h (fun h => ?_) (fun h => ?_)
        · exact ih _ _ hE3 hm3 h
        · refine lc_c h (fun q hq => lc_nn (l_M_skipSign _ hE3 hm3 (er_nn hq))) (fun i10 s11 t11 hc hE4 h => ?_)
          have hm4 := (w_M_skipSign _ _ hm3 (er_nn hc)).fx hm3
          refine lc_if h (fun h => ?_) (fun h => ?_)
          · exact ih _ _ hE4 hm4 h
          · exact ih _ _ hE4 hm4 h
      · exact l_M_readSelection_191 _ hE1 hm1 h
theorem l_M_readSelection_111 (x2 : Int32) {t0 s0 : g_St} {o : Unit × g_St} (hE : z_M t0 s0) (hm : m_Fix s0) (h : f_M_readSelection_111 (some 1) x2 s0 = some o) : ∃ o', f_M_readSelection_111 (some 1) x2 t0 = some o' ∧ o'.1 = o.1 ∧ z_M o'.2 o.2 := by
  unfold f_M_readSelection_111 at h
  unfold f_M_readSelection_111
  refine lc_gR ((hE.fx hm) _ m_k2497).1 (hm _ m_k2497).1 h (fun h => ?_)
  refine lc_gI hE (by decide) h (fun i2 h => ?_)
  refine lc_sI hE (m_arr_of m_k2497) h (fun j1 h => ?_)
  have hE1 := hE.sI 2260 j1 i2
  have hm1 := m_setAI 2260 j1 i2 hm
  refine lc_gR ((hE1.fx hm1) _ m_k2561).1 (hm1 _ m_k2561).1 h (fun h => ?_)
  refine lc_sI hE1 (m_arr_of m_k2561) h (fun j2 h => ?_)
  have hE2 := hE1.sI 2324 j2 0
  have hm2 := m_setAI 2324 j2 0 hm1
  refine lc_c h (fun q hq => lc_nn (l_M_skip _ hE2 hm2 (er_nn hq))) (fun i6 s7 t7 hc hE3 h => ?_)
  have hm3 := (w_M_skip _ _ hm2 (er_nn hc)).fx hm2
  refine lc_if h (fun h => ?_) (fun h => ?_)
  · exact l_M_readSelection_191 _ hE3 hm3 h
  · exact l_M_readSelection_138 _ _ _ hE3 hm3 h
theorem l_M_readSelection_67 : ∀ (n : Nat) (x2 : Int32) (x3 : Int32) {t0 s0 : g_St} {o : Unit × g_St}, z_M t0 s0 → m_Fix s0 → f_M_readSelection_67 n (some 1) x2 x3 s0 = some o → ∃ o', f_M_readSelection_67 n (some 1) x2 x3 t0 = some o' ∧ o'.1 = o.1 ∧ z_M o'.2 o.2 := by
  intro n
  induction n with
  | zero =>
    intro x2 x3 t0 s0 o hE hm h
    rw [f_M_readSelection_67] at h
    cases h
  | succ n ih =>
    intro x2 x3 t0 s0 o hE hm h
    rw [f_M_readSelection_67] at h
    rw [f_M_readSelection_67]
    refine lc_if h (fun h => ?_) (fun h => ?_)
    · exact l_M_readSelection_111 _ hE hm h
    · refine lc_c h (fun q hq => lc_nn (l_M_bad hE hm (er_nn hq))) (fun i1 s2 t2 hc hE1 h => ?_)
      have hm1 := (w_M_bad _ hm (er_nn hc)).fx hm
      refine lc_if h (fun h => ?_) (fun h => ?_)
      · refine lc_c h (fun q hq => lc_nn (l_M_readItem _ hE1 hm1 (er_nn hq))) (fun v2 s4 t4 hc hE2 h => ?_)
        have hm2 := (w_M_readItem _ _ hm1 (er_nn hc)).fx hm1
        refine lc_gR ((hE2.fx hm2) _ m_k2433).1 (hm2 _ m_k2433).1 h (fun h => ?_)
        refine lc_aI hE2 (m_arr_of m_k2433) h (fun i6 h => ?_)
        refine lc_if h (fun h => ?_) (fun h => ?_)
        · exact ih _ _ hE2 hm2 h
        · refine lc_c h (fun q hq => lc_nn (l_M_skipSign _ hE2 hm2 (er_nn hq))) (fun i7 s8 t8 hc hE3 h => ?_)
          have hm3 := (w_M_skipSign _ _ hm2 (er_nn hc)).fx hm2
          refine lc_if h (fun h => ?_) (fun h => ?_)
          · exact ih _ _ hE3 hm3 h
          · exact ih _ _ hE3 hm3 h
      · exact l_M_readSelection_111 _ hE1 hm1 h
theorem l_M_readSelection (x1 : Int32) {t0 s0 : g_St} {o : Unit × g_St} (hE : z_M t0 s0) (hm : m_Fix s0) (h : f_M_readSelection (some 1) x1 s0 = some o) : ∃ o', f_M_readSelection (some 1) x1 t0 = some o' ∧ o'.1 = o.1 ∧ z_M o'.2 o.2 := by
  unfold f_M_readSelection at h
  unfold f_M_readSelection
  refine lc_c h (fun q hq => lc_nn (l_M_bad hE hm (er_nn hq))) (fun i1 s2 t2 hc hE1 h => ?_)
  have hm1 := (w_M_bad _ hm (er_nn hc)).fx hm
  refine lc_if h (fun h => ?_) (fun h => ?_)
  · refine lc_gI hE1 (by decide) h (fun i3 h => ?_)
    refine lc_gR ((hE1.fx hm1) _ m_k2241).1 (hm1 _ m_k2241).1 h (fun h => ?_)
    refine lc_sI hE1 (m_arr_of m_k2241) h (fun j2 h => ?_)
    have hE2 := hE1.sI 2004 j2 x1
    have hm2 := m_setAI 2004 j2 x1 hm1
    refine lc_gR ((hE2.fx hm2) _ m_k2305).1 (hm2 _ m_k2305).1 h (fun h => ?_)
    refine lc_gR ((hE2.fx hm2) _ m_k705).1 (hm2 _ m_k705).1 h (fun h => ?_)
    refine lc_gI hE2 (by decide) h (fun i8 h => ?_)
    refine lc_aI hE2 (m_arr_of m_k705) h (fun i9 h => ?_)
    refine lc_sI hE2 (m_arr_of m_k2305) h (fun j3 h => ?_)
    have hE3 := hE2.sI 2068 j3 i9
    have hm3 := m_setAI 2068 j3 i9 hm2
    refine lc_c h (fun q hq => lc_nn (l_M_need _ hE3 hm3 (er_nn hq))) (fun i11 s12 t12 hc hE4 h => ?_)
    have hm4 := (w_M_need _ _ hm3 (er_nn hc)).fx hm3
    refine lc_gR ((hE4.fx hm4) _ m_k2369).1 (hm4 _ m_k2369).1 h (fun h => ?_)
    refine lc_gI hE4 (by decide) h (fun i14 h => ?_)
    refine lc_sI hE4 (m_arr_of m_k2369) h (fun j5 h => ?_)
    have hE5 := hE4.sI 2132 j5 i14
    have hm5 := m_setAI 2132 j5 i14 hm4
    refine lc_gR ((hE5.fx hm5) _ m_k2433).1 (hm5 _ m_k2433).1 h (fun h => ?_)
    refine lc_sI hE5 (m_arr_of m_k2433) h (fun j6 h => ?_)
    have hE6 := hE5.sI 2196 j6 0
    have hm6 := m_setAI 2196 j6 0 hm5
    refine lc_gR ((hE6.fx hm6) _ m_k2753).1 (hm6 _ m_k2753).1 h (fun h => ?_)
    refine lc_sZ hE6 (m_arr_of m_k2753) h (fun j7 h => ?_)
    have hE7 := hE6.sI 159 j7 0
    have hm7 := m_setAI 159 j7 0 hm6
    exact l_M_readSelection_67 _ _ _ hE7 hm7 h
  · exact lc_some hE1 h
theorem l_M_readTrails_97 (x1 : Int32) {t0 s0 : g_St} {o : Unit × g_St} (hE : z_M t0 s0) (hm : m_Fix s0) (h : f_M_readTrails_97 (some 1) x1 s0 = some o) : ∃ o', f_M_readTrails_97 (some 1) x1 t0 = some o' ∧ o'.1 = o.1 ∧ z_M o'.2 o.2 := by
  unfold f_M_readTrails_97 at h
  unfold f_M_readTrails_97
  refine lc_gR ((hE.fx hm) _ m_k1601).1 (hm _ m_k1601).1 h (fun h => ?_)
  refine lc_sI hE (m_arr_of m_k1601) h (fun j1 h => ?_)
  have hE1 := hE.sI 1620 j1 (-1)
  have hm1 := m_setAI 1620 j1 (-1) hm
  refine lc_c h (fun q hq => lc_nn (l_M_skip _ hE1 hm1 (er_nn hq))) (fun i3 s4 t4 hc hE2 h => ?_)
  have hm2 := (w_M_skip _ _ hm1 (er_nn hc)).fx hm1
  refine lc_if h (fun h => ?_) (fun h => ?_)
  · exact lc_some hE2 h
  · refine lc_gR ((hE2.fx hm2) _ m_k1601).1 (hm2 _ m_k1601).1 h (fun h => ?_)
    refine lc_c h (fun q hq => lc_nn (l_M_need _ hE2 hm2 (er_nn hq))) (fun i6 s7 t7 hc hE3 h => ?_)
    have hm3 := (w_M_need _ _ hm2 (er_nn hc)).fx hm2
    refine lc_sI hE3 (m_arr_of m_k1601) h (fun j4 h => ?_)
    have hE4 := hE3.sI 1620 j4 i6
    have hm4 := m_setAI 1620 j4 i6 hm3
    refine lc_c h (fun q hq => lc_nn (l_M_need _ hE4 hm4 (er_nn hq))) (fun i9 s10 t10 hc hE5 h => ?_)
    have hm5 := (w_M_need _ _ hm4 (er_nn hc)).fx hm4
    refine lc_gR ((hE5.fx hm5) _ m_k1665).1 (hm5 _ m_k1665).1 h (fun h => ?_)
    refine lc_c h (fun q hq => lc_nn (l_M_need _ hE5 hm5 (er_nn hq))) (fun i12 s13 t13 hc hE6 h => ?_)
    have hm6 := (w_M_need _ _ hm5 (er_nn hc)).fx hm5
    refine lc_sI hE6 (m_arr_of m_k1665) h (fun j7 h => ?_)
    have hE7 := hE6.sI 1684 j7 i12
    have hm7 := m_setAI 1684 j7 i12 hm6
    exact lc_some hE7 h
theorem l_M_readTrails_52 (x1 : Int32) {t0 s0 : g_St} {o : Unit × g_St} (hE : z_M t0 s0) (hm : m_Fix s0) (h : f_M_readTrails_52 (some 1) x1 s0 = some o) : ∃ o', f_M_readTrails_52 (some 1) x1 t0 = some o' ∧ o'.1 = o.1 ∧ z_M o'.2 o.2 := by
  unfold f_M_readTrails_52 at h
  unfold f_M_readTrails_52
  refine lc_c h (fun q hq => lc_nn (l_M_need _ hE hm (er_nn hq))) (fun i1 s2 t2 hc hE1 h => ?_)
  have hm1 := (w_M_need _ _ hm (er_nn hc)).fx hm
  refine lc_c h (fun q hq => lc_nn (l_M_need _ hE1 hm1 (er_nn hq))) (fun i3 s4 t4 hc hE2 h => ?_)
  have hm2 := (w_M_need _ _ hm1 (er_nn hc)).fx hm1
  refine lc_gR ((hE2.fx hm2) _ m_k1473).1 (hm2 _ m_k1473).1 h (fun h => ?_)
  refine lc_c h (fun q hq => lc_nn (l_M_need _ hE2 hm2 (er_nn hq))) (fun i6 s7 t7 hc hE3 h => ?_)
  have hm3 := (w_M_need _ _ hm2 (er_nn hc)).fx hm2
  refine lc_sI hE3 (m_arr_of m_k1473) h (fun j4 h => ?_)
  have hE4 := hE3.sI 1492 j4 i6
  have hm4 := m_setAI 1492 j4 i6 hm3
  refine lc_c h (fun q hq => lc_nn (l_M_need _ hE4 hm4 (er_nn hq))) (fun i9 s10 t10 hc hE5 h => ?_)
  have hm5 := (w_M_need _ _ hm4 (er_nn hc)).fx hm4
  refine lc_gR ((hE5.fx hm5) _ m_k1537).1 (hm5 _ m_k1537).1 h (fun h => ?_)
  refine lc_c h (fun q hq => lc_nn (l_M_need _ hE5 hm5 (er_nn hq))) (fun i12 s13 t13 hc hE6 h => ?_)
  have hm6 := (w_M_need _ _ hm5 (er_nn hc)).fx hm5
  refine lc_sI hE6 (m_arr_of m_k1537) h (fun j7 h => ?_)
  have hE7 := hE6.sI 1556 j7 i12
  have hm7 := m_setAI 1556 j7 i12 hm6
  exact l_M_readTrails_97 _ hE7 hm7 h
theorem l_M_readTrails_35 (x1 : Int32) (x1s : Int32) (x2s : Int32) {t0 s0 : g_St} {o : Unit × g_St} (hE : z_M t0 s0) (hm : m_Fix s0) (h : f_M_readTrails_35 (some 1) x1 (some 1428) x1s x2s s0 = some o) : ∃ o', f_M_readTrails_35 (some 1) x1 (some 1428) x1s x2s t0 = some o' ∧ o'.1 = o.1 ∧ z_M o'.2 o.2 := by
  unfold f_M_readTrails_35 at h
  unfold f_M_readTrails_35
  refine lc_sI hE (m_arr_of m_k1409) h (fun j1 h => ?_)
  have hE1 := hE.sI 1428 j1 x2s
  have hm1 := m_setAI 1428 j1 x2s hm
  refine lc_c h (fun q hq => lc_nn (l_M_skip _ hE1 hm1 (er_nn hq))) (fun i2 s3 t3 hc hE2 h => ?_)
  have hm2 := (w_M_skip _ _ hm1 (er_nn hc)).fx hm1
  refine lc_if h (fun h => ?_) (fun h => ?_)
  · refine lc_c h (fun q hq => lc_nn (l_M_need _ hE2 hm2 (er_nn hq))) (fun i4 s5 t5 hc hE3 h => ?_)
    have hm3 := (w_M_need _ _ hm2 (er_nn hc)).fx hm2
    exact l_M_readTrails_52 _ hE3 hm3 h
  · exact l_M_readTrails_52 _ hE2 hm2 h
theorem l_M_readTrails (x1 : Int32) {t0 s0 : g_St} {o : Unit × g_St} (hE : z_M t0 s0) (hm : m_Fix s0) (h : f_M_readTrails (some 1) x1 s0 = some o) : ∃ o', f_M_readTrails (some 1) x1 t0 = some o' ∧ o'.1 = o.1 ∧ z_M o'.2 o.2 := by
  unfold f_M_readTrails at h
  unfold f_M_readTrails
  refine lc_gR ((hE.fx hm) _ m_k1409).1 (hm _ m_k1409).1 h (fun h => ?_)
  refine lc_sI hE (m_arr_of m_k1409) h (fun j1 h => ?_)
  have hE1 := hE.sI 1428 j1 0
  have hm1 := m_setAI 1428 j1 0 hm
  refine lc_c h (fun q hq => lc_nn (l_M_skip _ hE1 hm1 (er_nn hq))) (fun i3 s4 t4 hc hE2 h => ?_)
  have hm2 := (w_M_skip _ _ hm1 (er_nn hc)).fx hm1
  refine lc_if h (fun h => ?_) (fun h => ?_)
  · exact l_M_readTrails_97 _ hE2 hm2 h
  · refine lc_gR ((hE2.fx hm2) _ m_k1409).1 (hm2 _ m_k1409).1 h (fun h => ?_)
    refine lc_c h (fun q hq => lc_nn (l_M_is _ hE2 hm2 (er_nn hq))) (fun i6 s7 t7 hc hE3 h => ?_)
    have hm3 := (w_M_is _ _ hm2 (er_nn hc)).fx hm2
    refine lc_if h (fun h => ?_) (fun h => ?_)
    · exact l_M_readTrails_35 _ _ _ hE3 hm3 h
    · exact l_M_readTrails_35 _ _ _ hE3 hm3 h
theorem l_M_readPart_269 (x1 : Int32) {t0 s0 : g_St} {o : Unit × g_St} (hE : z_M t0 s0) (hm : m_Fix s0) (h : f_M_readPart_269 (some 1) x1 s0 = some o) : ∃ o', f_M_readPart_269 (some 1) x1 t0 = some o' ∧ o'.1 = o.1 ∧ z_M o'.2 o.2 := by
  unfold f_M_readPart_269 at h
  unfold f_M_readPart_269
  refine lc_c h (fun q hq => lc_nn (l_M_needSign _ hE hm (er_nn hq))) (fun v1 s2 t2 hc hE1 h => ?_)
  have hm1 := (w_M_needSign _ _ hm (er_nn hc)).fx hm
  refine lc_c h (fun q hq => lc_nn (l_M_readTrails _ hE1 hm1 (er_nn hq))) (fun v2 s4 t4 hc hE2 h => ?_)
  have hm2 := (w_M_readTrails _ _ hm1 (er_nn hc)).fx hm1
  refine lc_gI hE2 (by decide) h (fun i5 h => ?_)
  refine lc_pI h (fun h => ?_)
  have hE3 := hE2.pI 1153 (i5 + 1)
  have hm3 := m_setI 1153 (i5 + 1) hm2
  exact lc_some hE3 h
theorem l_M_readPart_241 {k153 k153' : Option Nat → Int32 → Int32 → g_St → Option (Unit × g_St)} (hk153 : ∀ (y1 : Int32) (y2 : Int32) {t s : g_St} {o : Unit × g_St}, z_M t s → m_Fix s → k153 (some 1) y1 y2 s = some o → ∃ o', k153' (some 1) y1 y2 t = some o' ∧ o'.1 = o.1 ∧ z_M o'.2 o.2) (x1 : Int32) (x2 : Int32) (x3 : Int32) (x1s : Int32) (x2s : Int32) {t0 s0 : g_St} {o : Unit × g_St} (hE : z_M t0 s0) (hm : m_Fix s0) (h : f_M_readPart_241 k153 (some 1) x1 x2 x3 (some 95) x1s x2s s0 = some o) : ∃ o', f_M_readPart_241 k153' (some 1) x1 x2 x3 (some 95) x1s x2s t0 = some o' ∧ o'.1 = o.1 ∧ z_M o'.2 o.2 := by
  unfold f_M_readPart_241 at h
  unfold f_M_readPart_241
  refine lc_sZ hE (m_arr_of m_k1921) h (fun j1 h => ?_)
  have hE1 := hE.sI 95 j1 x2s
  have hm1 := m_setAI 95 j1 x2s hm
  refine lc_gR ((hE1.fx hm1) _ m_k1857).1 (hm1 _ m_k1857).1 h (fun h => ?_)
  refine lc_gR ((hE1.fx hm1) _ m_k1857).1 (hm1 _ m_k1857).1 h (fun h => ?_)
  refine lc_aI hE1 (m_arr_of m_k1857) h (fun i4 h => ?_)
  refine lc_if h (fun h => ?_) (fun h => ?_)
  · refine lc_if h (fun h => ?_) (fun h => ?_)
    · refine lc_sZ hE1 (m_arr_of m_k1857) h (fun j2 h => ?_)
      have hE2 := hE1.sI 31 j2 1
      have hm2 := m_setAI 31 j2 1 hm1
      exact hk153 _ _ hE2 hm2 h
    · refine lc_sZ hE1 (m_arr_of m_k1857) h (fun j3 h => ?_)
      have hE3 := hE1.sI 31 j3 0
      have hm3 := m_setAI 31 j3 0 hm1
      exact hk153 _ _ hE3 hm3 h
  · refine lc_sZ hE1 (m_arr_of m_k1857) h (fun j4 h => ?_)
    have hE4 := hE1.sI 31 j4 1
    have hm4 := m_setAI 31 j4 1 hm1
    exact hk153 _ _ hE4 hm4 h
theorem l_M_readPart_203 {k153 k153' : Option Nat → Int32 → Int32 → g_St → Option (Unit × g_St)} (hk153 : ∀ (y1 : Int32) (y2 : Int32) {t s : g_St} {o : Unit × g_St}, z_M t s → m_Fix s → k153 (some 1) y1 y2 s = some o → ∃ o', k153' (some 1) y1 y2 t = some o' ∧ o'.1 = o.1 ∧ z_M o'.2 o.2) (x1 : Int32) (x0s : Int32) {t0 s0 : g_St} {o : Unit × g_St} (hE : z_M t0 s0) (hm : m_Fix s0) (h : f_M_readPart_203 k153 (some 1) x1 x0s s0 = some o) : ∃ o', f_M_readPart_203 k153' (some 1) x1 x0s t0 = some o' ∧ o'.1 = o.1 ∧ z_M o'.2 o.2 := by
  unfold f_M_readPart_203 at h
  unfold f_M_readPart_203
  refine lc_if h (fun h => ?_) (fun h => ?_)
  · exact hk153 _ _ hE hm h
  · refine lc_c h (fun q hq => lc_nn (l_M_skip _ hE hm (er_nn hq))) (fun i1 s2 t2 hc hE1 h => ?_)
    have hm1 := (w_M_skip _ _ hm (er_nn hc)).fx hm
    refine lc_gR ((hE1.fx hm1) _ m_k1921).1 (hm1 _ m_k1921).1 h (fun h => ?_)
    refine lc_gR ((hE1.fx hm1) _ m_k1921).1 (hm1 _ m_k1921).1 h (fun h => ?_)
    refine lc_aI hE1 (m_arr_of m_k1921) h (fun i5 h => ?_)
    refine lc_if h (fun h => ?_) (fun h => ?_)
    · refine lc_if h (fun h => ?_) (fun h => ?_)
      · exact l_M_readPart_241 hk153 _ _ _ _ _ hE1 hm1 h
      · exact l_M_readPart_241 hk153 _ _ _ _ _ hE1 hm1 h
    · exact l_M_readPart_241 hk153 _ _ _ _ _ hE1 hm1 h
theorem l_M_readPart_153 : ∀ (n : Nat) (x1 : Int32) (x2 : Int32) {t0 s0 : g_St} {o : Unit × g_St}, z_M t0 s0 → m_Fix s0 → f_M_readPart_153 n (some 1) x1 x2 s0 = some o → ∃ o', f_M_readPart_153 n (some 1) x1 x2 t0 = some o' ∧ o'.1 = o.1 ∧ z_M o'.2 o.2 := by
  intro n
  induction n with
  | zero =>
    intro x1 x2 t0 s0 o hE hm h
    rw [f_M_readPart_153] at h
    cases h
  | succ n ih =>
    intro x1 x2 t0 s0 o hE hm h
    rw [f_M_readPart_153] at h
    rw [f_M_readPart_153]
    refine lc_if h (fun h => ?_) (fun h => ?_)
    · exact l_M_readPart_269 _ hE hm h
    · refine lc_c h (fun q hq => lc_nn (l_M_bad hE hm (er_nn hq))) (fun i1 s2 t2 hc hE1 h => ?_)
      have hm1 := (w_M_bad _ hm (er_nn hc)).fx hm
      refine lc_if h (fun h => ?_) (fun h => ?_)
      · refine lc_c h (fun q hq => lc_nn (l_M_readSelection _ hE1 hm1 (er_nn hq))) (fun v2 s4 t4 hc hE2 h => ?_)
        have hm2 := (w_M_readSelection _ _ hm1 (er_nn hc)).fx hm1
        refine lc_gR ((hE2.fx hm2) _ m_k2049).1 (hm2 _ m_k2049).1 h (fun h => ?_)
        refine lc_aI hE2 (m_arr_of m_k2049) h (fun i6 h => ?_)
        refine lc_sI hE2 (m_arr_of m_k2049) h (fun j3 h => ?_)
        have hE3 := hE2.sI 1940 j3 (i6 + 1)
        have hm3 := m_setAI 1940 j3 (i6 + 1) hm2
        refine lc_gR ((hE3.fx hm3) _ m_k2049).1 (hm3 _ m_k2049).1 h (fun h => ?_)
        refine lc_aI hE3 (m_arr_of m_k2049) h (fun i9 h => ?_)
        refine lc_if h (fun h => ?_) (fun h => ?_)
        · exact l_M_readPart_203 ih _ _ hE3 hm3 h
        · refine lc_c h (fun q hq => lc_nn (l_M_skip _ hE3 hm3 (er_nn hq))) (fun i10 s11 t11 hc hE4 h => ?_)
          have hm4 := (w_M_skip _ _ hm3 (er_nn hc)).fx hm3
          refine lc_if h (fun h => ?_) (fun h => ?_)
          · exact l_M_readPart_203 ih _ _ hE4 hm4 h
          · exact l_M_readPart_203 ih _ _ hE4 hm4 h
      · exact l_M_readPart_269 _ hE1 hm1 h
theorem l_M_readPart_102 (x1 : Int32) {t0 s0 : g_St} {o : Unit × g_St} (hE : z_M t0 s0) (hm : m_Fix s0) (h : f_M_readPart_102 (some 1) x1 s0 = some o) : ∃ o', f_M_readPart_102 (some 1) x1 t0 = some o' ∧ o'.1 = o.1 ∧ z_M o'.2 o.2 := by
  unfold f_M_readPart_102 at h
  unfold f_M_readPart_102
  refine lc_c h (fun q hq => lc_nn (l_M_needSign _ hE hm (er_nn hq))) (fun v1 s2 t2 hc hE1 h => ?_)
  have hm1 := (w_M_needSign _ _ hm (er_nn hc)).fx hm
  refine lc_c h (fun q hq => lc_nn (l_M_need _ hE1 hm1 (er_nn hq))) (fun i3 s4 t4 hc hE2 h => ?_)
  have hm2 := (w_M_need _ _ hm1 (er_nn hc)).fx hm1
  refine lc_c h (fun q hq => lc_nn (l_M_needSign _ hE2 hm2 (er_nn hq))) (fun v3 s6 t6 hc hE3 h => ?_)
  have hm3 := (w_M_needSign _ _ hm2 (er_nn hc)).fx hm2
  refine lc_gR ((hE3.fx hm3) _ m_k1985).1 (hm3 _ m_k1985).1 h (fun h => ?_)
  refine lc_gI hE3 (by decide) h (fun i8 h => ?_)
  refine lc_sI hE3 (m_arr_of m_k1985) h (fun j4 h => ?_)
  have hE4 := hE3.sI 1876 j4 i8
  have hm4 := m_setAI 1876 j4 i8 hm3
  refine lc_gR ((hE4.fx hm4) _ m_k2049).1 (hm4 _ m_k2049).1 h (fun h => ?_)
  refine lc_sI hE4 (m_arr_of m_k2049) h (fun j5 h => ?_)
  have hE5 := hE4.sI 1940 j5 0
  have hm5 := m_setAI 1940 j5 0 hm4
  refine lc_gR ((hE5.fx hm5) _ m_k1857).1 (hm5 _ m_k1857).1 h (fun h => ?_)
  refine lc_sZ hE5 (m_arr_of m_k1857) h (fun j6 h => ?_)
  have hE6 := hE5.sI 31 j6 0
  have hm6 := m_setAI 31 j6 0 hm5
  refine lc_gR ((hE6.fx hm6) _ m_k1921).1 (hm6 _ m_k1921).1 h (fun h => ?_)
  refine lc_sZ hE6 (m_arr_of m_k1921) h (fun j7 h => ?_)
  have hE7 := hE6.sI 95 j7 0
  have hm7 := m_setAI 95 j7 0 hm6
  exact l_M_readPart_153 _ _ _ hE7 hm7 h
theorem l_M_readPart_32 : ∀ (n : Nat) (x1 : Int32) (x2 : Int32) {t0 s0 : g_St} {o : Unit × g_St}, z_M t0 s0 → m_Fix s0 → f_M_readPart_32 n (some 1) x1 x2 s0 = some o → ∃ o', f_M_readPart_32 n (some 1) x1 x2 t0 = some o' ∧ o'.1 = o.1 ∧ z_M o'.2 o.2 := by
  intro n
  induction n with
  | zero =>
    intro x1 x2 t0 s0 o hE hm h
    rw [f_M_readPart_32] at h
    cases h
  | succ n ih =>
    intro x1 x2 t0 s0 o hE hm h
    rw [f_M_readPart_32] at h
    rw [f_M_readPart_32]
    refine lc_if h (fun h => ?_) (fun h => ?_)
    · exact l_M_readPart_102 _ hE hm h
    · refine lc_c h (fun q hq => lc_nn (l_M_bad hE hm (er_nn hq))) (fun i1 s2 t2 hc hE1 h => ?_)
      have hm1 := (w_M_bad _ hm (er_nn hc)).fx hm
      refine lc_if h (fun h => ?_) (fun h => ?_)
      · refine lc_gR ((hE1.fx hm1) _ m_k1345).1 (hm1 _ m_k1345).1 h (fun h => ?_)
        refine lc_gR ((hE1.fx hm1) _ m_k1281).1 (hm1 _ m_k1281).1 h (fun h => ?_)
        refine lc_aI hE1 (m_arr_of m_k1281) h (fun i5 h => ?_)
        refine lc_c h (fun q hq => lc_nn (l_M_need _ hE1 hm1 (er_nn hq))) (fun i6 s7 t7 hc hE2 h => ?_)
        have hm2 := (w_M_need _ _ hm1 (er_nn hc)).fx hm1
        refine lc_sI hE2 (m_arr_of m_k1345) h (fun j3 h => ?_)
        have hE3 := hE2.sI 1364 j3 i6
        have hm3 := m_setAI 1364 j3 i6 hm2
        refine lc_gR ((hE3.fx hm3) _ m_k1281).1 (hm3 _ m_k1281).1 h (fun h => ?_)
        refine lc_aI hE3 (m_arr_of m_k1281) h (fun i10 h => ?_)
        refine lc_sI hE3 (m_arr_of m_k1281) h (fun j4 h => ?_)
        have hE4 := hE3.sI 1300 j4 (i10 + 1)
        have hm4 := m_setAI 1300 j4 (i10 + 1) hm3
        refine lc_gR ((hE4.fx hm4) _ m_k1281).1 (hm4 _ m_k1281).1 h (fun h => ?_)
        refine lc_aI hE4 (m_arr_of m_k1281) h (fun i13 h => ?_)
        refine lc_if h (fun h => ?_) (fun h => ?_)
        · exact ih _ _ hE4 hm4 h
        · refine lc_c h (fun q hq => lc_nn (l_M_skipSign _ hE4 hm4 (er_nn hq))) (fun i14 s15 t15 hc hE5 h => ?_)
          have hm5 := (w_M_skipSign _ _ hm4 (er_nn hc)).fx hm4
          refine lc_if h (fun h => ?_) (fun h => ?_)
          · exact ih _ _ hE5 hm5 h
          · exact ih _ _ hE5 hm5 h
      · exact l_M_readPart_102 _ hE1 hm1 h
theorem l_M_readPart  {t0 s0 : g_St} {o : Unit × g_St} (hE : z_M t0 s0) (hm : m_Fix s0) (h : f_M_readPart (some 1) s0 = some o) : ∃ o', f_M_readPart (some 1) t0 = some o' ∧ o'.1 = o.1 ∧ z_M o'.2 o.2 := by
  unfold f_M_readPart at h
  unfold f_M_readPart
  refine lc_gI hE (by decide) h (fun i1 h => ?_)
  refine lc_gR ((hE.fx hm) _ m_k1217).1 (hm _ m_k1217).1 h (fun h => ?_)
  refine lc_c h (fun q hq => lc_nn (l_M_need _ hE hm (er_nn hq))) (fun i3 s4 t4 hc hE1 h => ?_)
  have hm1 := (w_M_need _ _ hm (er_nn hc)).fx hm
  refine lc_sI hE1 (m_arr_of m_k1217) h (fun j2 h => ?_)
  have hE2 := hE1.sI 1236 j2 i3
  have hm2 := m_setAI 1236 j2 i3 hm1
  refine lc_c h (fun q hq => lc_nn (l_M_needSign _ hE2 hm2 (er_nn hq))) (fun v3 s7 t7 hc hE3 h => ?_)
  have hm3 := (w_M_needSign _ _ hm2 (er_nn hc)).fx hm2
  refine lc_gR ((hE3.fx hm3) _ m_k1281).1 (hm3 _ m_k1281).1 h (fun h => ?_)
  refine lc_sI hE3 (m_arr_of m_k1281) h (fun j4 h => ?_)
  have hE4 := hE3.sI 1300 j4 0
  have hm4 := m_setAI 1300 j4 0 hm3
  exact l_M_readPart_32 _ _ _ hE4 hm4 h
theorem l_M_readOrder_27 : ∀ (n : Nat) (x1 : Int32) {t0 s0 : g_St} {o : Unit × g_St}, z_M t0 s0 → m_Fix s0 → f_M_readOrder_27 n (some 1) x1 s0 = some o → ∃ o', f_M_readOrder_27 n (some 1) x1 t0 = some o' ∧ o'.1 = o.1 ∧ z_M o'.2 o.2 := by
  intro n
  induction n with
  | zero =>
    intro x1 t0 s0 o hE hm h
    rw [f_M_readOrder_27] at h
    cases h
  | succ n ih =>
    intro x1 t0 s0 o hE hm h
    rw [f_M_readOrder_27] at h
    rw [f_M_readOrder_27]
    refine lc_if h (fun h => ?_) (fun h => ?_)
    · exact lc_some hE h
    · refine lc_c h (fun q hq => lc_nn (l_M_bad hE hm (er_nn hq))) (fun i1 s2 t2 hc hE1 h => ?_)
      have hm1 := (w_M_bad _ hm (er_nn hc)).fx hm
      refine lc_if h (fun h => ?_) (fun h => ?_)
      · refine lc_gR ((hE1.fx hm1) _ m_k4481).1 (hm1 _ m_k4481).1 h (fun h => ?_)
        refine lc_gI hE1 (by decide) h (fun i4 h => ?_)
        refine lc_gI hE1 (by decide) h (fun i5 h => ?_)
        refine lc_sI hE1 (m_arr_of m_k4481) h (fun j2 h => ?_)
        have hE2 := hE1.sI 3732 j2 i5
        have hm2 := m_setAI 3732 j2 i5 hm1
        refine lc_c h (fun q hq => lc_nn (l_M_need _ hE2 hm2 (er_nn hq))) (fun i7 s8 t8 hc hE3 h => ?_)
        have hm3 := (w_M_need _ _ hm2 (er_nn hc)).fx hm2
        refine lc_c h (fun q hq => lc_nn (l_M_needSign _ hE3 hm3 (er_nn hq))) (fun v4 s10 t10 hc hE4 h => ?_)
        have hm4 := (w_M_needSign _ _ hm3 (er_nn hc)).fx hm3
        refine lc_c h (fun q hq => lc_nn (l_M_need _ hE4 hm4 (er_nn hq))) (fun i11 s12 t12 hc hE5 h => ?_)
        have hm5 := (w_M_need _ _ hm4 (er_nn hc)).fx hm4
        refine lc_gI hE5 (by decide) h (fun i13 h => ?_)
        refine lc_pI h (fun h => ?_)
        have hE6 := hE5.pI 4353 (i13 + 1)
        have hm6 := m_setI 4353 (i13 + 1) hm5
        refine lc_gI hE6 (by decide) h (fun i15 h => ?_)
        refine lc_if h (fun h => ?_) (fun h => ?_)
        · exact ih _ hE6 hm6 h
        · refine lc_c h (fun q hq => lc_nn (l_M_skipSign _ hE6 hm6 (er_nn hq))) (fun i16 s17 t17 hc hE7 h => ?_)
          have hm7 := (w_M_skipSign _ _ hm6 (er_nn hc)).fx hm6
          refine lc_if h (fun h => ?_) (fun h => ?_)
          · exact ih _ hE7 hm7 h
          · exact ih _ hE7 hm7 h
      · exact lc_some hE1 h
theorem l_M_readOrder  {t0 s0 : g_St} {o : Unit × g_St} (hE : z_M t0 s0) (hm : m_Fix s0) (h : f_M_readOrder (some 1) s0 = some o) : ∃ o', f_M_readOrder (some 1) t0 = some o' ∧ o'.1 = o.1 ∧ z_M o'.2 o.2 := by
  unfold f_M_readOrder at h
  unfold f_M_readOrder
  refine lc_gI hE (by decide) h (fun i1 h => ?_)
  refine lc_pI h (fun h => ?_)
  have hE1 := hE.pI 4417 i1
  have hm1 := m_setI 4417 i1 hm
  refine lc_gI hE1 (by decide) h (fun i3 h => ?_)
  refine lc_pI h (fun h => ?_)
  have hE2 := hE1.pI 577 (i3 + 1)
  have hm2 := m_setI 577 (i3 + 1) hm1
  refine lc_c h (fun q hq => lc_nn (l_M_need _ hE2 hm2 (er_nn hq))) (fun i5 s6 t6 hc hE3 h => ?_)
  have hm3 := (w_M_need _ _ hm2 (er_nn hc)).fx hm2
  exact l_M_readOrder_27 _ _ hE3 hm3 h
theorem l_M_readQuery_93  {t0 s0 : g_St} {o : Unit × g_St} (hE : z_M t0 s0) (hm : m_Fix s0) (h : f_M_readQuery_93 (some 1) s0 = some o) : ∃ o', f_M_readQuery_93 (some 1) t0 = some o' ∧ o'.1 = o.1 ∧ z_M o'.2 o.2 := by
  unfold f_M_readQuery_93 at h
  unfold f_M_readQuery_93
  refine lc_c h (fun q hq => lc_nn (l_M_need _ hE hm (er_nn hq))) (fun i1 s2 t2 hc hE1 h => ?_)
  have hm1 := (w_M_need _ _ hm (er_nn hc)).fx hm
  exact lc_some hE1 h
theorem l_M_readQuery_65  {t0 s0 : g_St} {o : Unit × g_St} (hE : z_M t0 s0) (hm : m_Fix s0) (h : f_M_readQuery_65 (some 1) s0 = some o) : ∃ o', f_M_readQuery_65 (some 1) t0 = some o' ∧ o'.1 = o.1 ∧ z_M o'.2 o.2 := by
  unfold f_M_readQuery_65 at h
  unfold f_M_readQuery_65
  refine lc_gR ((hE.fx hm) _ m_k1985).1 (hm _ m_k1985).1 h (fun h => ?_)
  refine lc_gI hE (by decide) h (fun i2 h => ?_)
  refine lc_sI hE (m_arr_of m_k1985) h (fun j1 h => ?_)
  have hE1 := hE.sI 1876 j1 i2
  have hm1 := m_setAI 1876 j1 i2 hm
  refine lc_c h (fun q hq => lc_nn (l_M_readSelection _ hE1 hm1 (er_nn hq))) (fun v2 s5 t5 hc hE2 h => ?_)
  have hm2 := (w_M_readSelection _ _ hm1 (er_nn hc)).fx hm1
  refine lc_c h (fun q hq => lc_nn (l_M_is _ hE2 hm2 (er_nn hq))) (fun i6 s7 t7 hc hE3 h => ?_)
  have hm3 := (w_M_is _ _ hm2 (er_nn hc)).fx hm2
  refine lc_if h (fun h => ?_) (fun h => ?_)
  · exact l_M_readQuery_93 hE3 hm3 h
  · refine lc_c h (fun q hq => lc_nn (l_M_readOrder hE3 hm3 (er_nn hq))) (fun v4 s9 t9 hc hE4 h => ?_)
    have hm4 := (w_M_readOrder _ hm3 (er_nn hc)).fx hm3
    exact l_M_readQuery_93 hE4 hm4 h
theorem l_M_readQuery_24 : ∀ (n : Nat) (x1 : Int32) {t0 s0 : g_St} {o : Unit × g_St}, z_M t0 s0 → m_Fix s0 → f_M_readQuery_24 n (some 1) x1 s0 = some o → ∃ o', f_M_readQuery_24 n (some 1) x1 t0 = some o' ∧ o'.1 = o.1 ∧ z_M o'.2 o.2 := by
  intro n
  induction n with
  | zero =>
    intro x1 t0 s0 o hE hm h
    rw [f_M_readQuery_24] at h
    cases h
  | succ n ih =>
    intro x1 t0 s0 o hE hm h
    rw [f_M_readQuery_24] at h
    rw [f_M_readQuery_24]
    refine lc_if h (fun h => ?_) (fun h => ?_)
    · exact l_M_readQuery_65 hE hm h
    · refine lc_c h (fun q hq => lc_nn (l_M_bad hE hm (er_nn hq))) (fun i1 s2 t2 hc hE1 h => ?_)
      have hm1 := (w_M_bad _ hm (er_nn hc)).fx hm
      refine lc_if h (fun h => ?_) (fun h => ?_)
      · refine lc_c h (fun q hq => lc_nn (l_M_readPart hE1 hm1 (er_nn hq))) (fun v2 s4 t4 hc hE2 h => ?_)
        have hm2 := (w_M_readPart _ hm1 (er_nn hc)).fx hm1
        refine lc_gI hE2 (by decide) h (fun i5 h => ?_)
        refine lc_if h (fun h => ?_) (fun h => ?_)
        · exact ih _ hE2 hm2 h
        · refine lc_c h (fun q hq => lc_nn (l_M_skipSign _ hE2 hm2 (er_nn hq))) (fun i6 s7 t7 hc hE3 h => ?_)
          have hm3 := (w_M_skipSign _ _ hm2 (er_nn hc)).fx hm2
          refine lc_if h (fun h => ?_) (fun h => ?_)
          · exact ih _ hE3 hm3 h
          · exact ih _ hE3 hm3 h
      · exact l_M_readQuery_65 hE1 hm1 h
theorem l_M_readQuery  {t0 s0 : g_St} {o : Unit × g_St} (hE : z_M t0 s0) (hm : m_Fix s0) (h : f_M_readQuery (some 1) s0 = some o) : ∃ o', f_M_readQuery (some 1) t0 = some o' ∧ o'.1 = o.1 ∧ z_M o'.2 o.2 := by
  unfold f_M_readQuery at h
  unfold f_M_readQuery
  refine lc_pZ h (fun h => ?_)
  have hE1 := hE.pI 2113 0
  have hm1 := m_setI 2113 0 hm
  refine lc_c h (fun q hq => lc_nn (l_M_skip _ hE1 hm1 (er_nn hq))) (fun i2 s3 t3 hc hE2 h => ?_)
  have hm2 := (w_M_skip _ _ hm1 (er_nn hc)).fx hm1
  refine lc_if h (fun h => ?_) (fun h => ?_)
  · exact l_M_readQuery_65 hE2 hm2 h
  · refine lc_c h (fun q hq => lc_nn (l_M_skip _ hE2 hm2 (er_nn hq))) (fun i4 s5 t5 hc hE3 h => ?_)
    have hm3 := (w_M_skip _ _ hm2 (er_nn hc)).fx hm2
    refine lc_pZ h (fun h => ?_)
    have hE4 := hE3.pI 2113 i4
    have hm4 := m_setI 2113 i4 hm3
    exact l_M_readQuery_24 _ _ hE4 hm4 h
theorem l_M_meaning_44 : ∀ (n : Nat) (x1 : Int32) (x2 : Int32) {t0 s0 : g_St} {o : Int32 × g_St}, z_M t0 s0 → m_Fix s0 → f_M_meaning_44 n (some 1) x1 x2 s0 = some o → ∃ o', f_M_meaning_44 n (some 1) x1 x2 t0 = some o' ∧ o'.1 = o.1 ∧ z_M o'.2 o.2 := by
  intro n
  induction n with
  | zero =>
    intro x1 x2 t0 s0 o hE hm h
    rw [f_M_meaning_44] at h
    cases h
  | succ n ih =>
    intro x1 x2 t0 s0 o hE hm h
    rw [f_M_meaning_44] at h
    rw [f_M_meaning_44]
    refine lc_gI hE (by decide) h (fun i1 h => ?_)
    refine lc_if h (fun h => ?_) (fun h => ?_)
    · exact lc_some hE h
    · refine lc_gR ((hE.fx hm) _ m_k769).1 (hm _ m_k769).1 h (fun h => ?_)
      refine lc_aL hE (m_arr_of m_k769) h (fun j3 h => ?_)
      refine lc_if h (fun h => ?_) (fun h => ?_)
      · exact lc_some hE h
      · exact ih _ _ hE hm h
theorem l_M_meaning_2 : ∀ (n : Nat) (x1 : Int32) (x2 : Int32) {t0 s0 : g_St} {o : Int32 × g_St}, z_M t0 s0 → m_Fix s0 → f_M_meaning_2 n (some 1) x1 x2 s0 = some o → ∃ o', f_M_meaning_2 n (some 1) x1 x2 t0 = some o' ∧ o'.1 = o.1 ∧ z_M o'.2 o.2 := by
  intro n
  induction n with
  | zero =>
    intro x1 x2 t0 s0 o hE hm h
    rw [f_M_meaning_2] at h
    cases h
  | succ n ih =>
    intro x1 x2 t0 s0 o hE hm h
    rw [f_M_meaning_2] at h
    rw [f_M_meaning_2]
    refine lc_gI hE (by decide) h (fun i1 h => ?_)
    refine lc_if h (fun h => ?_) (fun h => ?_)
    · exact l_M_meaning_44 _ _ _ hE hm h
    · refine lc_gR ((hE.fx hm) _ m_k769).1 (hm _ m_k769).1 h (fun h => ?_)
      refine lc_gR ((hE.fx hm) _ m_k1217).1 (hm _ m_k1217).1 h (fun h => ?_)
      refine lc_aI hE (m_arr_of m_k1217) h (fun i4 h => ?_)
      refine lc_aL hE (m_arr_of m_k769) h (fun j5 h => ?_)
      refine lc_gR ((hE.fx hm) _ m_k769).1 (hm _ m_k769).1 h (fun h => ?_)
      refine lc_aL hE (m_arr_of m_k769) h (fun j7 h => ?_)
      refine lc_if h (fun h => ?_) (fun h => ?_)
      · exact lc_some hE h
      · exact ih _ _ hE hm h
theorem l_M_meaning (x1 : Int32) {t0 s0 : g_St} {o : Int32 × g_St} (hE : z_M t0 s0) (hm : m_Fix s0) (h : f_M_meaning (some 1) x1 s0 = some o) : ∃ o', f_M_meaning (some 1) x1 t0 = some o' ∧ o'.1 = o.1 ∧ z_M o'.2 o.2 := by
  unfold f_M_meaning at h
  unfold f_M_meaning
  exact l_M_meaning_2 _ _ _ hE hm h
theorem l_M_columnOf_128 (y2 : Int64) (x4 : Int32) (x5 : Int32) {t0 s0 : g_St} {o : Int32 × g_St} (hE : z_M t0 s0) (hm : m_Fix s0) (h : f_M_columnOf_128 (some 1) y2 x4 x5 s0 = some o) : ∃ o', f_M_columnOf_128 (some 1) y2 x4 x5 t0 = some o' ∧ o'.1 = o.1 ∧ z_M o'.2 o.2 := by
  unfold f_M_columnOf_128 at h
  unfold f_M_columnOf_128
  refine lc_if h (fun h => ?_) (fun h => ?_)
  · exact lc_some hE h
  · refine lc_gR ((hE.fx hm) _ m_k1409).1 (hm _ m_k1409).1 h (fun h => ?_)
    refine lc_aI hE (m_arr_of m_k1409) h (fun i2 h => ?_)
    refine lc_if h (fun h => ?_) (fun h => ?_)
    · exact lc_some hE h
    · refine lc_gR ((hE.fx hm) _ m_k769).1 (hm _ m_k769).1 h (fun h => ?_)
      refine lc_gR ((hE.fx hm) _ m_k1537).1 (hm _ m_k1537).1 h (fun h => ?_)
      refine lc_aI hE (m_arr_of m_k1537) h (fun i5 h => ?_)
      refine lc_aL hE (m_arr_of m_k769) h (fun j6 h => ?_)
      refine lc_if h (fun h => ?_) (fun h => ?_)
      · exact lc_some hE h
      · exact lc_some hE h
theorem l_M_columnOf_49 : ∀ (n : Nat) (y2 : Int64) (x4 : Int32) (x5 : Int32) (x6 : Int32) {t0 s0 : g_St} {o : Int32 × g_St}, z_M t0 s0 → m_Fix s0 → f_M_columnOf_49 n (some 1) y2 x4 x5 x6 s0 = some o → ∃ o', f_M_columnOf_49 n (some 1) y2 x4 x5 x6 t0 = some o' ∧ o'.1 = o.1 ∧ z_M o'.2 o.2 := by
  intro n
  induction n with
  | zero =>
    intro y2 x4 x5 x6 t0 s0 o hE hm h
    rw [f_M_columnOf_49] at h
    cases h
  | succ n ih =>
    intro y2 x4 x5 x6 t0 s0 o hE hm h
    rw [f_M_columnOf_49] at h
    rw [f_M_columnOf_49]
    refine lc_gR ((hE.fx hm) _ m_k1281).1 (hm _ m_k1281).1 h (fun h => ?_)
    refine lc_aI hE (m_arr_of m_k1281) h (fun i2 h => ?_)
    refine lc_if h (fun h => ?_) (fun h => ?_)
    · refine lc_gR ((hE.fx hm) _ m_k1601).1 (hm _ m_k1601).1 h (fun h => ?_)
      refine lc_aI hE (m_arr_of m_k1601) h (fun i4 h => ?_)
      refine lc_if h (fun h => ?_) (fun h => ?_)
      · exact l_M_columnOf_128 _ _ _ hE hm h
      · refine lc_gR ((hE.fx hm) _ m_k769).1 (hm _ m_k769).1 h (fun h => ?_)
        refine lc_gR ((hE.fx hm) _ m_k1665).1 (hm _ m_k1665).1 h (fun h => ?_)
        refine lc_aI hE (m_arr_of m_k1665) h (fun i7 h => ?_)
        refine lc_aL hE (m_arr_of m_k769) h (fun j8 h => ?_)
        refine lc_if h (fun h => ?_) (fun h => ?_)
        · refine lc_gR ((hE.fx hm) _ m_k1281).1 (hm _ m_k1281).1 h (fun h => ?_)
          refine lc_aI hE (m_arr_of m_k1281) h (fun i10 h => ?_)
          exact lc_some hE h
        · exact l_M_columnOf_128 _ _ _ hE hm h
    · refine lc_gR ((hE.fx hm) _ m_k769).1 (hm _ m_k769).1 h (fun h => ?_)
      refine lc_gR ((hE.fx hm) _ m_k1345).1 (hm _ m_k1345).1 h (fun h => ?_)
      refine lc_aI hE (m_arr_of m_k1345) h (fun i13 h => ?_)
      refine lc_aL hE (m_arr_of m_k769) h (fun j14 h => ?_)
      refine lc_if h (fun h => ?_) (fun h => ?_)
      · exact lc_some hE h
      · exact ih _ _ _ _ hE hm h
theorem l_M_columnOf (x1 : Int32) (y2 : Int64) (x4 : Int32) {t0 s0 : g_St} {o : Int32 × g_St} (hE : z_M t0 s0) (hm : m_Fix s0) (h : f_M_columnOf (some 1) x1 y2 x4 s0 = some o) : ∃ o', f_M_columnOf (some 1) x1 y2 x4 t0 = some o' ∧ o'.1 = o.1 ∧ z_M o'.2 o.2 := by
  unfold f_M_columnOf at h
  unfold f_M_columnOf
  refine lc_if h (fun h => ?_) (fun h => ?_)
  · exact lc_some hE h
  · refine lc_if h (fun h => ?_) (fun h => ?_)
    · exact l_M_columnOf_49 _ _ _ _ _ hE hm h
    · refine lc_if h (fun h => ?_) (fun h => ?_)
      · exact lc_some hE h
      · refine lc_gR ((hE.fx hm) _ m_k129).1 (hm _ m_k129).1 h (fun h => ?_)
        refine lc_aI hE (m_arr_of m_k129) h (fun i2 h => ?_)
        refine lc_if h (fun h => ?_) (fun h => ?_)
        · exact lc_some hE h
        · exact lc_some hE h
theorem l_M_slotOf_3 : ∀ (n : Nat) (x1 : Int32) (y2 : Int64) (x4 : Int32) (x5 : Int32) {t0 s0 : g_St} {o : Int32 × g_St}, z_M t0 s0 → m_Fix s0 → f_M_slotOf_3 n (some 1) x1 y2 x4 x5 s0 = some o → ∃ o', f_M_slotOf_3 n (some 1) x1 y2 x4 x5 t0 = some o' ∧ o'.1 = o.1 ∧ z_M o'.2 o.2 := by
  intro n
  induction n with
  | zero =>
    intro x1 y2 x4 x5 t0 s0 o hE hm h
    rw [f_M_slotOf_3] at h
    cases h
  | succ n ih =>
    intro x1 y2 x4 x5 t0 s0 o hE hm h
    rw [f_M_slotOf_3] at h
    rw [f_M_slotOf_3]
    refine lc_gR ((hE.fx hm) _ m_k2561).1 (hm _ m_k2561).1 h (fun h => ?_)
    refine lc_aI hE (m_arr_of m_k2561) h (fun i2 h => ?_)
    refine lc_if h (fun h => ?_) (fun h => ?_)
    · refine lc_if h (fun h => ?_) (fun h => ?_)
      · exact lc_some hE h
      · refine lc_gR ((hE.fx hm) _ m_k769).1 (hm _ m_k769).1 h (fun h => ?_)
        refine lc_gR ((hE.fx hm) _ m_k3713).1 (hm _ m_k3713).1 h (fun h => ?_)
        refine lc_aI hE (m_arr_of m_k3713) h (fun i5 h => ?_)
        refine lc_aL hE (m_arr_of m_k769) h (fun j6 h => ?_)
        refine lc_if h (fun h => ?_) (fun h => ?_)
        · exact lc_some hE h
        · exact lc_some hE h
    · refine lc_gR ((hE.fx hm) _ m_k769).1 (hm _ m_k769).1 h (fun h => ?_)
      refine lc_gR ((hE.fx hm) _ m_k3713).1 (hm _ m_k3713).1 h (fun h => ?_)
      refine lc_gR ((hE.fx hm) _ m_k2497).1 (hm _ m_k2497).1 h (fun h => ?_)
      refine lc_aI hE (m_arr_of m_k2497) h (fun i10 h => ?_)
      refine lc_aI hE (m_arr_of m_k3713) h (fun i11 h => ?_)
      refine lc_aL hE (m_arr_of m_k769) h (fun j12 h => ?_)
      refine lc_if h (fun h => ?_) (fun h => ?_)
      · exact lc_some hE h
      · exact ih _ _ _ _ hE hm h
theorem l_M_slotOf (x1 : Int32) (y2 : Int64) (x4 : Int32) {t0 s0 : g_St} {o : Int32 × g_St} (hE : z_M t0 s0) (hm : m_Fix s0) (h : f_M_slotOf (some 1) x1 y2 x4 s0 = some o) : ∃ o', f_M_slotOf (some 1) x1 y2 x4 t0 = some o' ∧ o'.1 = o.1 ∧ z_M o'.2 o.2 := by
  unfold f_M_slotOf at h
  unfold f_M_slotOf
  exact l_M_slotOf_3 _ _ _ _ _ hE hm h
theorem l_M_resolveSource_70 (x2 : Int32) {t0 s0 : g_St} {o : Unit × g_St} (hE : z_M t0 s0) (hm : m_Fix s0) (h : f_M_resolveSource_70 (some 1) x2 s0 = some o) : ∃ o', f_M_resolveSource_70 (some 1) x2 t0 = some o' ∧ o'.1 = o.1 ∧ z_M o'.2 o.2 := by
  unfold f_M_resolveSource_70 at h
  unfold f_M_resolveSource_70
  refine lc_gR ((hE.fx hm) _ m_k705).1 (hm _ m_k705).1 h (fun h => ?_)
  refine lc_gR ((hE.fx hm) _ m_k3649).1 (hm _ m_k3649).1 h (fun h => ?_)
  refine lc_aI hE (m_arr_of m_k3649) h (fun i3 h => ?_)
  refine lc_aI hE (m_arr_of m_k705) h (fun i4 h => ?_)
  refine lc_c h (fun q hq => lc_nn (l_M_note _ _ hE hm (er_nn hq))) (fun v1 s6 t6 hc hE1 h => ?_)
  have hm1 := (w_M_note _ _ _ hm (er_nn hc)).fx hm
  exact lc_some hE1 h
theorem l_M_resolveSource_53 (x2 : Int32) (x0s : Int32) {t0 s0 : g_St} {o : Unit × g_St} (hE : z_M t0 s0) (hm : m_Fix s0) (h : f_M_resolveSource_53 (some 1) x2 x0s s0 = some o) : ∃ o', f_M_resolveSource_53 (some 1) x2 x0s t0 = some o' ∧ o'.1 = o.1 ∧ z_M o'.2 o.2 := by
  unfold f_M_resolveSource_53 at h
  unfold f_M_resolveSource_53
  refine lc_gR ((hE.fx hm) _ m_k3777).1 (hm _ m_k3777).1 h (fun h => ?_)
  refine lc_aI hE (m_arr_of m_k3777) h (fun i2 h => ?_)
  refine lc_if h (fun h => ?_) (fun h => ?_)
  · exact l_M_resolveSource_70 _ hE hm h
  · refine lc_if h (fun h => ?_) (fun h => ?_)
    · exact lc_some hE h
    · exact l_M_resolveSource_70 _ hE hm h
theorem l_M_resolveSource (x1 : Int32) (x2 : Int32) {t0 s0 : g_St} {o : Unit × g_St} (hE : z_M t0 s0) (hm : m_Fix s0) (h : f_M_resolveSource (some 1) x1 x2 s0 = some o) : ∃ o', f_M_resolveSource (some 1) x1 x2 t0 = some o' ∧ o'.1 = o.1 ∧ z_M o'.2 o.2 := by
  unfold f_M_resolveSource at h
  unfold f_M_resolveSource
  refine lc_gR ((hE.fx hm) _ m_k3777).1 (hm _ m_k3777).1 h (fun h => ?_)
  refine lc_gR ((hE.fx hm) _ m_k3649).1 (hm _ m_k3649).1 h (fun h => ?_)
  refine lc_aI hE (m_arr_of m_k3649) h (fun i3 h => ?_)
  refine lc_c h (fun q hq => lc_nn (l_M_meaning _ hE hm (er_nn hq))) (fun i4 s5 t5 hc hE1 h => ?_)
  have hm1 := (w_M_meaning _ _ hm (er_nn hc)).fx hm
  refine lc_sI hE1 (m_arr_of m_k3777) h (fun j2 h => ?_)
  have hE2 := hE1.sI 3220 j2 i4
  have hm2 := m_setAI 3220 j2 i4 hm1
  refine lc_gR ((hE2.fx hm2) _ m_k2241).1 (hm2 _ m_k2241).1 h (fun h => ?_)
  refine lc_aI hE2 (m_arr_of m_k2241) h (fun i8 h => ?_)
  refine lc_if h (fun h => ?_) (fun h => ?_)
  · exact l_M_resolveSource_53 _ _ hE2 hm2 h
  · refine lc_gI hE2 (by decide) h (fun i9 h => ?_)
    refine lc_if h (fun h => ?_) (fun h => ?_)
    · refine lc_gR ((hE2.fx hm2) _ m_k3777).1 (hm2 _ m_k3777).1 h (fun h => ?_)
      refine lc_aI hE2 (m_arr_of m_k3777) h (fun i11 h => ?_)
      refine lc_if h (fun h => ?_) (fun h => ?_)
      · exact l_M_resolveSource_53 _ _ hE2 hm2 h
      · exact l_M_resolveSource_53 _ _ hE2 hm2 h
    · exact l_M_resolveSource_53 _ _ hE2 hm2 h
theorem l_M_resolveExpression_126 {k3 k3' : Option Nat → Int32 → Int32 → Int32 → Int32 → g_St → Option (Unit × g_St)} (hk3 : ∀ (y1 : Int32) (y2 : Int32) (y3 : Int32) (y4 : Int32) {t s : g_St} {o : Unit × g_St}, z_M t s → m_Fix s → k3 (some 1) y1 y2 y3 y4 s = some o → ∃ o', k3' (some 1) y1 y2 y3 y4 t = some o' ∧ o'.1 = o.1 ∧ z_M o'.2 o.2) (x1 : Int32) (x2 : Int32) (x3 : Int32) (x4 : Int32) (x5 : Int32) (x6 : Int32) (x1s : Int32) (x2s : Int32) {t0 s0 : g_St} {o : Unit × g_St} (hE : z_M t0 s0) (hm : m_Fix s0) (h : f_M_resolveExpression_126 k3 (some 1) x1 x2 x3 x4 x5 x6 (some 3028) x1s x2s s0 = some o) : ∃ o', f_M_resolveExpression_126 k3' (some 1) x1 x2 x3 x4 x5 x6 (some 3028) x1s x2s t0 = some o' ∧ o'.1 = o.1 ∧ z_M o'.2 o.2 := by
  unfold f_M_resolveExpression_126 at h
  unfold f_M_resolveExpression_126
  refine lc_sI hE (m_arr_of m_k3521) h (fun j1 h => ?_)
  have hE1 := hE.sI 3028 j1 x2s
  have hm1 := m_setAI 3028 j1 x2s hm
  refine lc_gR ((hE1.fx hm1) _ m_k3521).1 (hm1 _ m_k3521).1 h (fun h => ?_)
  refine lc_aI hE1 (m_arr_of m_k3521) h (fun i3 h => ?_)
  refine lc_if h (fun h => ?_) (fun h => ?_)
  · refine lc_gR ((hE1.fx hm1) _ m_k705).1 (hm1 _ m_k705).1 h (fun h => ?_)
    refine lc_aI hE1 (m_arr_of m_k705) h (fun i5 h => ?_)
    refine lc_c h (fun q hq => lc_nn (l_M_note _ _ hE1 hm1 (er_nn hq))) (fun v2 s7 t7 hc hE2 h => ?_)
    have hm2 := (w_M_note _ _ _ hm1 (er_nn hc)).fx hm1
    exact hk3 _ _ _ _ hE2 hm2 h
  · exact hk3 _ _ _ _ hE1 hm1 h
theorem l_M_resolveExpression_112 {k3 k3' : Option Nat → Int32 → Int32 → Int32 → Int32 → g_St → Option (Unit × g_St)} (hk3 : ∀ (y1 : Int32) (y2 : Int32) (y3 : Int32) (y4 : Int32) {t s : g_St} {o : Unit × g_St}, z_M t s → m_Fix s → k3 (some 1) y1 y2 y3 y4 s = some o → ∃ o', k3' (some 1) y1 y2 y3 y4 t = some o' ∧ o'.1 = o.1 ∧ z_M o'.2 o.2) (x1 : Int32) (x2 : Int32) (x3 : Int32) (x4 : Int32) (x5 : Int32) (x6 : Int32) (x1s : Int32) (x4s : Int32) {t0 s0 : g_St} {o : Unit × g_St} (hE : z_M t0 s0) (hm : m_Fix s0) (h : f_M_resolveExpression_112 k3 (some 1) x1 x2 x3 x4 x5 x6 (some 3028) x1s (some 1) (some 3220) x4s s0 = some o) : ∃ o', f_M_resolveExpression_112 k3' (some 1) x1 x2 x3 x4 x5 x6 (some 3028) x1s (some 1) (some 3220) x4s t0 = some o' ∧ o'.1 = o.1 ∧ z_M o'.2 o.2 := by
  unfold f_M_resolveExpression_112 at h
  unfold f_M_resolveExpression_112
  refine lc_aI hE (m_arr_of m_k3777) h (fun i1 h => ?_)
  refine lc_gR ((hE.fx hm) _ m_k769).1 (hm _ m_k769).1 h (fun h => ?_)
  refine lc_aL hE (m_arr_of m_k769) h (fun j3 h => ?_)
  refine lc_c h (fun q hq => lc_nn (l_M_columnOf _ _ _ hE hm (er_nn hq))) (fun i4 s5 t5 hc hE1 h => ?_)
  have hm1 := (w_M_columnOf _ _ _ _ hm (er_nn hc)).fx hm
  exact l_M_resolveExpression_126 hk3 _ _ _ _ _ _ _ _ hE1 hm1 h
theorem l_M_resolveExpression_3 : ∀ (n : Nat) (x1 : Int32) (x2 : Int32) (x3 : Int32) (x4 : Int32) {t0 s0 : g_St} {o : Unit × g_St}, z_M t0 s0 → m_Fix s0 → f_M_resolveExpression_3 n (some 1) x1 x2 x3 x4 s0 = some o → ∃ o', f_M_resolveExpression_3 n (some 1) x1 x2 x3 x4 t0 = some o' ∧ o'.1 = o.1 ∧ z_M o'.2 o.2 := by
  intro n
  induction n with
  | zero =>
    intro x1 x2 x3 x4 t0 s0 o hE hm h
    rw [f_M_resolveExpression_3] at h
    cases h
  | succ n ih =>
    intro x1 x2 x3 x4 t0 s0 o hE hm h
    rw [f_M_resolveExpression_3] at h
    rw [f_M_resolveExpression_3]
    refine lc_gR ((hE.fx hm) _ m_k3201).1 (hm _ m_k3201).1 h (fun h => ?_)
    refine lc_aI hE (m_arr_of m_k3201) h (fun i2 h => ?_)
    refine lc_if h (fun h => ?_) (fun h => ?_)
    · exact lc_some hE h
    · refine lc_gR ((hE.fx hm) _ m_k3137).1 (hm _ m_k3137).1 h (fun h => ?_)
      refine lc_aI hE (m_arr_of m_k3137) h (fun i4 h => ?_)
      refine lc_gR ((hE.fx hm) _ m_k3265).1 (hm _ m_k3265).1 h (fun h => ?_)
      refine lc_aI hE (m_arr_of m_k3265) h (fun i6 h => ?_)
      refine lc_if h (fun h => ?_) (fun h => ?_)
      · refine lc_gR ((hE.fx hm) _ m_k3393).1 (hm _ m_k3393).1 h (fun h => ?_)
        refine lc_aI hE (m_arr_of m_k3393) h (fun i8 h => ?_)
        refine lc_gR ((hE.fx hm) _ m_k769).1 (hm _ m_k769).1 h (fun h => ?_)
        refine lc_aL hE (m_arr_of m_k769) h (fun j10 h => ?_)
        refine lc_c h (fun q hq => lc_nn (l_M_slotOf _ _ _ hE hm (er_nn hq))) (fun i11 s12 t12 hc hE1 h => ?_)
        have hm1 := (w_M_slotOf _ _ _ _ hm (er_nn hc)).fx hm
        refine lc_gR ((hE1.fx hm1) _ m_k3457).1 (hm1 _ m_k3457).1 h (fun h => ?_)
        refine lc_sI hE1 (m_arr_of m_k3457) h (fun j2 h => ?_)
        have hE2 := hE1.sI 2964 j2 i11
        have hm2 := m_setAI 2964 j2 i11 hm1
        refine lc_gR ((hE2.fx hm2) _ m_k3521).1 (hm2 _ m_k3521).1 h (fun h => ?_)
        refine lc_if h (fun h => ?_) (fun h => ?_)
        · exact l_M_resolveExpression_126 ih _ _ _ _ _ _ _ _ hE2 hm2 h
        · refine lc_gR ((hE2.fx hm2) _ m_k3777).1 (hm2 _ m_k3777).1 h (fun h => ?_)
          refine lc_if h (fun h => ?_) (fun h => ?_)
          · exact l_M_resolveExpression_112 ih _ _ _ _ _ _ _ _ hE2 hm2 h
          · refine lc_gR ((hE2.fx hm2) _ m_k2497).1 (hm2 _ m_k2497).1 h (fun h => ?_)
            refine lc_aI hE2 (m_arr_of m_k2497) h (fun i18 h => ?_)
            exact l_M_resolveExpression_112 ih _ _ _ _ _ _ _ _ hE2 hm2 h
      · exact ih _ _ _ _ hE hm h
theorem l_M_resolveExpression (x1 : Int32) (x2 : Int32) (x3 : Int32) {t0 s0 : g_St} {o : Unit × g_St} (hE : z_M t0 s0) (hm : m_Fix s0) (h : f_M_resolveExpression (some 1) x1 x2 x3 s0 = some o) : ∃ o', f_M_resolveExpression (some 1) x1 x2 x3 t0 = some o' ∧ o'.1 = o.1 ∧ z_M o'.2 o.2 := by
  unfold f_M_resolveExpression at h
  unfold f_M_resolveExpression
  exact l_M_resolveExpression_3 _ _ _ _ _ hE hm h
theorem l_M_resolveCondition (x1 : Int32) (x2 : Int32) (x3 : Int32) {t0 s0 : g_St} {o : Unit × g_St} (hE : z_M t0 s0) (hm : m_Fix s0) (h : f_M_resolveCondition (some 1) x1 x2 x3 s0 = some o) : ∃ o', f_M_resolveCondition (some 1) x1 x2 x3 t0 = some o' ∧ o'.1 = o.1 ∧ z_M o'.2 o.2 := by
  unfold f_M_resolveCondition at h
  unfold f_M_resolveCondition
  refine lc_gR ((hE.fx hm) _ m_k4033).1 (hm _ m_k4033).1 h (fun h => ?_)
  refine lc_aI hE (m_arr_of m_k4033) h (fun i2 h => ?_)
  refine lc_c h (fun q hq => lc_nn (l_M_resolveExpression _ _ _ hE hm (er_nn hq))) (fun v1 s4 t4 hc hE1 h => ?_)
  have hm1 := (w_M_resolveExpression _ _ _ _ hm (er_nn hc)).fx hm
  refine lc_gR ((hE1.fx hm1) _ m_k3905).1 (hm1 _ m_k3905).1 h (fun h => ?_)
  refine lc_aI hE1 (m_arr_of m_k3905) h (fun i6 h => ?_)
  refine lc_if h (fun h => ?_) (fun h => ?_)
  · refine lc_gR ((hE1.fx hm1) _ m_k4097).1 (hm1 _ m_k4097).1 h (fun h => ?_)
    refine lc_aI hE1 (m_arr_of m_k4097) h (fun i8 h => ?_)
    refine lc_c h (fun q hq => lc_nn (l_M_resolveExpression _ _ _ hE1 hm1 (er_nn hq))) (fun v2 s10 t10 hc hE2 h => ?_)
    have hm2 := (w_M_resolveExpression _ _ _ _ hm1 (er_nn hc)).fx hm1
    exact lc_some hE2 h
  · exact lc_some hE1 h
theorem l_M_resolveNotExists_53 : ∀ (n : Nat) (x1 : Int32) (x2 : Int32) (x3 : Int32) (x4 : Int32) {t0 s0 : g_St} {o : Unit × g_St}, z_M t0 s0 → m_Fix s0 → f_M_resolveNotExists_53 n (some 1) x1 x2 x3 x4 s0 = some o → ∃ o', f_M_resolveNotExists_53 n (some 1) x1 x2 x3 x4 t0 = some o' ∧ o'.1 = o.1 ∧ z_M o'.2 o.2 := by
  intro n
  induction n with
  | zero =>
    intro x1 x2 x3 x4 t0 s0 o hE hm h
    rw [f_M_resolveNotExists_53] at h
    cases h
  | succ n ih =>
    intro x1 x2 x3 x4 t0 s0 o hE hm h
    rw [f_M_resolveNotExists_53] at h
    rw [f_M_resolveNotExists_53]
    refine lc_gR ((hE.fx hm) _ m_k4225).1 (hm _ m_k4225).1 h (fun h => ?_)
    refine lc_aI hE (m_arr_of m_k4225) h (fun i2 h => ?_)
    refine lc_if h (fun h => ?_) (fun h => ?_)
    · exact lc_some hE h
    · refine lc_gR ((hE.fx hm) _ m_k4289).1 (hm _ m_k4289).1 h (fun h => ?_)
      refine lc_aI hE (m_arr_of m_k4289) h (fun i4 h => ?_)
      refine lc_c h (fun q hq => lc_nn (l_M_resolveCondition _ _ _ hE hm (er_nn hq))) (fun v1 s6 t6 hc hE1 h => ?_)
      have hm1 := (w_M_resolveCondition _ _ _ _ hm (er_nn hc)).fx hm
      exact ih _ _ _ _ hE1 hm1 h
theorem l_M_resolveNotExists (x1 : Int32) (x2 : Int32) {t0 s0 : g_St} {o : Unit × g_St} (hE : z_M t0 s0) (hm : m_Fix s0) (h : f_M_resolveNotExists (some 1) x1 x2 s0 = some o) : ∃ o', f_M_resolveNotExists (some 1) x1 x2 t0 = some o' ∧ o'.1 = o.1 ∧ z_M o'.2 o.2 := by
  unfold f_M_resolveNotExists at h
  unfold f_M_resolveNotExists
  refine lc_gR ((hE.fx hm) _ m_k4161).1 (hm _ m_k4161).1 h (fun h => ?_)
  refine lc_aI hE (m_arr_of m_k4161) h (fun i2 h => ?_)
  refine lc_c h (fun q hq => lc_nn (l_M_resolveSource _ _ hE hm (er_nn hq))) (fun v1 s4 t4 hc hE1 h => ?_)
  have hm1 := (w_M_resolveSource _ _ _ hm (er_nn hc)).fx hm
  refine lc_gR ((hE1.fx hm1) _ m_k769).1 (hm1 _ m_k769).1 h (fun h => ?_)
  refine lc_gR ((hE1.fx hm1) _ m_k3713).1 (hm1 _ m_k3713).1 h (fun h => ?_)
  refine lc_aI hE1 (m_arr_of m_k3713) h (fun i7 h => ?_)
  refine lc_aL hE1 (m_arr_of m_k769) h (fun j8 h => ?_)
  refine lc_c h (fun q hq => lc_nn (l_M_slotOf _ _ _ hE1 hm1 (er_nn hq))) (fun i9 s10 t10 hc hE2 h => ?_)
  have hm2 := (w_M_slotOf _ _ _ _ hm1 (er_nn hc)).fx hm1
  refine lc_if h (fun h => ?_) (fun h => ?_)
  · exact l_M_resolveNotExists_53 _ _ _ _ _ hE2 hm2 h
  · refine lc_gR ((hE2.fx hm2) _ m_k705).1 (hm2 _ m_k705).1 h (fun h => ?_)
    refine lc_gR ((hE2.fx hm2) _ m_k3713).1 (hm2 _ m_k3713).1 h (fun h => ?_)
    refine lc_aI hE2 (m_arr_of m_k3713) h (fun i13 h => ?_)
    refine lc_aI hE2 (m_arr_of m_k705) h (fun i14 h => ?_)
    refine lc_c h (fun q hq => lc_nn (l_M_note _ _ hE2 hm2 (er_nn hq))) (fun v3 s16 t16 hc hE3 h => ?_)
    have hm3 := (w_M_note _ _ _ hm2 (er_nn hc)).fx hm2
    exact l_M_resolveNotExists_53 _ _ _ _ _ hE3 hm3 h
theorem l_M_resolveSelection_116 : ∀ (n : Nat) (x1 : Int32) (x2 : Int32) {t0 s0 : g_St} {o : Unit × g_St}, z_M t0 s0 → m_Fix s0 → f_M_resolveSelection_116 n (some 1) x1 x2 s0 = some o → ∃ o', f_M_resolveSelection_116 n (some 1) x1 x2 t0 = some o' ∧ o'.1 = o.1 ∧ z_M o'.2 o.2 := by
  intro n
  induction n with
  | zero =>
    intro x1 x2 t0 s0 o hE hm h
    rw [f_M_resolveSelection_116] at h
    cases h
  | succ n ih =>
    intro x1 x2 t0 s0 o hE hm h
    rw [f_M_resolveSelection_116] at h
    rw [f_M_resolveSelection_116]
    refine lc_gR ((hE.fx hm) _ m_k2625).1 (hm _ m_k2625).1 h (fun h => ?_)
    refine lc_aI hE (m_arr_of m_k2625) h (fun i2 h => ?_)
    refine lc_if h (fun h => ?_) (fun h => ?_)
    · exact lc_some hE h
    · refine lc_gR ((hE.fx hm) _ m_k2689).1 (hm _ m_k2689).1 h (fun h => ?_)
      refine lc_aI hE (m_arr_of m_k2689) h (fun i4 h => ?_)
      refine lc_gR ((hE.fx hm) _ m_k3905).1 (hm _ m_k3905).1 h (fun h => ?_)
      refine lc_aI hE (m_arr_of m_k3905) h (fun i6 h => ?_)
      refine lc_if h (fun h => ?_) (fun h => ?_)
      · refine lc_c h (fun q hq => lc_nn (l_M_resolveNotExists _ _ hE hm (er_nn hq))) (fun v1 s10 t10 hc hE1 h => ?_)
        have hm1 := (w_M_resolveNotExists _ _ _ hm (er_nn hc)).fx hm
        exact ih _ _ hE1 hm1 h
      · refine lc_c h (fun q hq => lc_nn (l_M_resolveCondition _ _ _ hE hm (er_nn hq))) (fun v2 s8 t8 hc hE2 h => ?_)
        have hm2 := (w_M_resolveCondition _ _ _ _ hm (er_nn hc)).fx hm
        exact ih _ _ hE2 hm2 h
theorem l_M_resolveSelection_72 : ∀ (n : Nat) (x1 : Int32) (x2 : Int32) {t0 s0 : g_St} {o : Unit × g_St}, z_M t0 s0 → m_Fix s0 → f_M_resolveSelection_72 n (some 1) x1 x2 s0 = some o → ∃ o', f_M_resolveSelection_72 n (some 1) x1 x2 t0 = some o' ∧ o'.1 = o.1 ∧ z_M o'.2 o.2 := by
  intro n
  induction n with
  | zero =>
    intro x1 x2 t0 s0 o hE hm h
    rw [f_M_resolveSelection_72] at h
    cases h
  | succ n ih =>
    intro x1 x2 t0 s0 o hE hm h
    rw [f_M_resolveSelection_72] at h
    rw [f_M_resolveSelection_72]
    refine lc_gR ((hE.fx hm) _ m_k2433).1 (hm _ m_k2433).1 h (fun h => ?_)
    refine lc_aI hE (m_arr_of m_k2433) h (fun i2 h => ?_)
    refine lc_if h (fun h => ?_) (fun h => ?_)
    · exact l_M_resolveSelection_116 _ _ _ hE hm h
    · refine lc_gR ((hE.fx hm) _ m_k2945).1 (hm _ m_k2945).1 h (fun h => ?_)
      refine lc_gR ((hE.fx hm) _ m_k2369).1 (hm _ m_k2369).1 h (fun h => ?_)
      refine lc_aI hE (m_arr_of m_k2369) h (fun i5 h => ?_)
      refine lc_aI hE (m_arr_of m_k2945) h (fun i6 h => ?_)
      refine lc_if h (fun h => ?_) (fun h => ?_)
      · exact ih _ _ hE hm h
      · refine lc_c h (fun q hq => lc_nn (l_M_resolveExpression _ _ _ hE hm (er_nn hq))) (fun v1 s8 t8 hc hE1 h => ?_)
        have hm1 := (w_M_resolveExpression _ _ _ _ hm (er_nn hc)).fx hm
        exact ih _ _ hE1 hm1 h
theorem l_M_resolveSelection_2 : ∀ (n : Nat) (x1 : Int32) (x2 : Int32) {t0 s0 : g_St} {o : Unit × g_St}, z_M t0 s0 → m_Fix s0 → f_M_resolveSelection_2 n (some 1) x1 x2 s0 = some o → ∃ o', f_M_resolveSelection_2 n (some 1) x1 x2 t0 = some o' ∧ o'.1 = o.1 ∧ z_M o'.2 o.2 := by
  intro n
  induction n with
  | zero =>
    intro x1 x2 t0 s0 o hE hm h
    rw [f_M_resolveSelection_2] at h
    cases h
  | succ n ih =>
    intro x1 x2 t0 s0 o hE hm h
    rw [f_M_resolveSelection_2] at h
    rw [f_M_resolveSelection_2]
    refine lc_gR ((hE.fx hm) _ m_k2561).1 (hm _ m_k2561).1 h (fun h => ?_)
    refine lc_aI hE (m_arr_of m_k2561) h (fun i2 h => ?_)
    refine lc_if h (fun h => ?_) (fun h => ?_)
    · exact l_M_resolveSelection_72 _ _ _ hE hm h
    · refine lc_gR ((hE.fx hm) _ m_k2497).1 (hm _ m_k2497).1 h (fun h => ?_)
      refine lc_aI hE (m_arr_of m_k2497) h (fun i4 h => ?_)
      refine lc_c h (fun q hq => lc_nn (l_M_resolveSource _ _ hE hm (er_nn hq))) (fun v1 s6 t6 hc hE1 h => ?_)
      have hm1 := (w_M_resolveSource _ _ _ hm (er_nn hc)).fx hm
      refine lc_gR ((hE1.fx hm1) _ m_k769).1 (hm1 _ m_k769).1 h (fun h => ?_)
      refine lc_gR ((hE1.fx hm1) _ m_k3713).1 (hm1 _ m_k3713).1 h (fun h => ?_)
      refine lc_aI hE1 (m_arr_of m_k3713) h (fun i9 h => ?_)
      refine lc_aL hE1 (m_arr_of m_k769) h (fun j10 h => ?_)
      refine lc_c h (fun q hq => lc_nn (l_M_slotOf _ _ _ hE1 hm1 (er_nn hq))) (fun i11 s12 t12 hc hE2 h => ?_)
      have hm2 := (w_M_slotOf _ _ _ _ hm1 (er_nn hc)).fx hm1
      refine lc_if h (fun h => ?_) (fun h => ?_)
      · exact ih _ _ hE2 hm2 h
      · refine lc_gR ((hE2.fx hm2) _ m_k705).1 (hm2 _ m_k705).1 h (fun h => ?_)
        refine lc_gR ((hE2.fx hm2) _ m_k3713).1 (hm2 _ m_k3713).1 h (fun h => ?_)
        refine lc_aI hE2 (m_arr_of m_k3713) h (fun i15 h => ?_)
        refine lc_aI hE2 (m_arr_of m_k705) h (fun i16 h => ?_)
        refine lc_c h (fun q hq => lc_nn (l_M_note _ _ hE2 hm2 (er_nn hq))) (fun v3 s18 t18 hc hE3 h => ?_)
        have hm3 := (w_M_note _ _ _ hm2 (er_nn hc)).fx hm2
        exact ih _ _ hE3 hm3 h
theorem l_M_resolveSelection (x1 : Int32) {t0 s0 : g_St} {o : Unit × g_St} (hE : z_M t0 s0) (hm : m_Fix s0) (h : f_M_resolveSelection (some 1) x1 s0 = some o) : ∃ o', f_M_resolveSelection (some 1) x1 t0 = some o' ∧ o'.1 = o.1 ∧ z_M o'.2 o.2 := by
  unfold f_M_resolveSelection at h
  unfold f_M_resolveSelection
  exact l_M_resolveSelection_2 _ _ _ hE hm h
theorem l_M_ownColumn_2 : ∀ (n : Nat) (x1 : Int32) (x2 : Int32) (x3 : Int32) {t0 s0 : g_St} {o : Int32 × g_St}, z_M t0 s0 → m_Fix s0 → f_M_ownColumn_2 n (some 1) x1 x2 x3 s0 = some o → ∃ o', f_M_ownColumn_2 n (some 1) x1 x2 x3 t0 = some o' ∧ o'.1 = o.1 ∧ z_M o'.2 o.2 := by
  intro n
  induction n with
  | zero =>
    intro x1 x2 x3 t0 s0 o hE hm h
    rw [f_M_ownColumn_2] at h
    cases h
  | succ n ih =>
    intro x1 x2 x3 t0 s0 o hE hm h
    rw [f_M_ownColumn_2] at h
    rw [f_M_ownColumn_2]
    refine lc_gR ((hE.fx hm) _ m_k1281).1 (hm _ m_k1281).1 h (fun h => ?_)
    refine lc_aI hE (m_arr_of m_k1281) h (fun i2 h => ?_)
    refine lc_if h (fun h => ?_) (fun h => ?_)
    · refine lc_gR ((hE.fx hm) _ m_k705).1 (hm _ m_k705).1 h (fun h => ?_)
      refine lc_aI hE (m_arr_of m_k705) h (fun i4 h => ?_)
      refine lc_c h (fun q hq => lc_nn (l_M_note _ _ hE hm (er_nn hq))) (fun v1 s6 t6 hc hE1 h => ?_)
      have hm1 := (w_M_note _ _ _ hm (er_nn hc)).fx hm
      exact lc_some hE1 h
    · refine lc_gR ((hE.fx hm) _ m_k769).1 (hm _ m_k769).1 h (fun h => ?_)
      refine lc_gR ((hE.fx hm) _ m_k1345).1 (hm _ m_k1345).1 h (fun h => ?_)
      refine lc_aI hE (m_arr_of m_k1345) h (fun i9 h => ?_)
      refine lc_aL hE (m_arr_of m_k769) h (fun j10 h => ?_)
      refine lc_gR ((hE.fx hm) _ m_k769).1 (hm _ m_k769).1 h (fun h => ?_)
      refine lc_aL hE (m_arr_of m_k769) h (fun j12 h => ?_)
      refine lc_if h (fun h => ?_) (fun h => ?_)
      · exact lc_some hE h
      · exact ih _ _ _ hE hm h
theorem l_M_ownColumn (x1 : Int32) (x2 : Int32) {t0 s0 : g_St} {o : Int32 × g_St} (hE : z_M t0 s0) (hm : m_Fix s0) (h : f_M_ownColumn (some 1) x1 x2 s0 = some o) : ∃ o', f_M_ownColumn (some 1) x1 x2 t0 = some o' ∧ o'.1 = o.1 ∧ z_M o'.2 o.2 := by
  unfold f_M_ownColumn at h
  unfold f_M_ownColumn
  exact l_M_ownColumn_2 _ _ _ _ hE hm h
theorem l_M_fresh_45 : ∀ (n : Nat) (x1 : Int32) (x2 : Int32) (x3 : Int32) (x5 : Int32) (x6 : Int32) {t0 s0 : g_St} {o : Unit × g_St}, z_M t0 s0 → m_Fix s0 → f_M_fresh_45 n (some 1) x1 x2 x3 x5 x6 s0 = some o → ∃ o', f_M_fresh_45 n (some 1) x1 x2 x3 x5 x6 t0 = some o' ∧ o'.1 = o.1 ∧ z_M o'.2 o.2 := by
  intro n
  induction n with
  | zero =>
    intro x1 x2 x3 x5 x6 t0 s0 o hE hm h
    rw [f_M_fresh_45] at h
    cases h
  | succ n ih =>
    intro x1 x2 x3 x5 x6 t0 s0 o hE hm h
    rw [f_M_fresh_45] at h
    rw [f_M_fresh_45]
    refine lc_if h (fun h => ?_) (fun h => ?_)
    · refine lc_if h (fun h => ?_) (fun h => ?_)
      · exact lc_some hE h
      · refine lc_gR ((hE.fx hm) _ m_k705).1 (hm _ m_k705).1 h (fun h => ?_)
        refine lc_aI hE (m_arr_of m_k705) h (fun i2 h => ?_)
        refine lc_c h (fun q hq => lc_nn (l_M_note _ _ hE hm (er_nn hq))) (fun v1 s4 t4 hc hE1 h => ?_)
        have hm1 := (w_M_note _ _ _ hm (er_nn hc)).fx hm
        exact lc_some hE1 h
    · refine lc_if h (fun h => ?_) (fun h => ?_)
      · refine lc_gR ((hE.fx hm) _ m_k769).1 (hm _ m_k769).1 h (fun h => ?_)
        refine lc_gR ((hE.fx hm) _ m_k1345).1 (hm _ m_k1345).1 h (fun h => ?_)
        refine lc_aI hE (m_arr_of m_k1345) h (fun i7 h => ?_)
        refine lc_aL hE (m_arr_of m_k769) h (fun j8 h => ?_)
        refine lc_gR ((hE.fx hm) _ m_k769).1 (hm _ m_k769).1 h (fun h => ?_)
        refine lc_aL hE (m_arr_of m_k769) h (fun j10 h => ?_)
        refine lc_if h (fun h => ?_) (fun h => ?_)
        · exact ih _ _ _ _ _ hE hm h
        · exact ih _ _ _ _ _ hE hm h
      · exact ih _ _ _ _ _ hE hm h
theorem l_M_fresh (x1 : Int32) (x2 : Int32) (x3 : Int32) (x4 : Int32) {t0 s0 : g_St} {o : Unit × g_St} (hE : z_M t0 s0) (hm : m_Fix s0) (h : f_M_fresh (some 1) x1 x2 x3 x4 s0 = some o) : ∃ o', f_M_fresh (some 1) x1 x2 x3 x4 t0 = some o' ∧ o'.1 = o.1 ∧ z_M o'.2 o.2 := by
  unfold f_M_fresh at h
  unfold f_M_fresh
  refine lc_if h (fun h => ?_) (fun h => ?_)
  · exact l_M_fresh_45 _ _ _ _ _ _ hE hm h
  · refine lc_gR ((hE.fx hm) _ m_k1409).1 (hm _ m_k1409).1 h (fun h => ?_)
    refine lc_aI hE (m_arr_of m_k1409) h (fun i2 h => ?_)
    refine lc_if h (fun h => ?_) (fun h => ?_)
    · exact l_M_fresh_45 _ _ _ _ _ _ hE hm h
    · refine lc_gR ((hE.fx hm) _ m_k769).1 (hm _ m_k769).1 h (fun h => ?_)
      refine lc_gR ((hE.fx hm) _ m_k1537).1 (hm _ m_k1537).1 h (fun h => ?_)
      refine lc_aI hE (m_arr_of m_k1537) h (fun i5 h => ?_)
      refine lc_aL hE (m_arr_of m_k769) h (fun j6 h => ?_)
      refine lc_gR ((hE.fx hm) _ m_k769).1 (hm _ m_k769).1 h (fun h => ?_)
      refine lc_aL hE (m_arr_of m_k769) h (fun j8 h => ?_)
      refine lc_if h (fun h => ?_) (fun h => ?_)
      · exact l_M_fresh_45 _ _ _ _ _ _ hE hm h
      · exact l_M_fresh_45 _ _ _ _ _ _ hE hm h
theorem l_M_resolvePart_134 (x1 : Int32) {t0 s0 : g_St} {o : Unit × g_St} (hE : z_M t0 s0) (hm : m_Fix s0) (h : f_M_resolvePart_134 (some 1) x1 s0 = some o) : ∃ o', f_M_resolvePart_134 (some 1) x1 t0 = some o' ∧ o'.1 = o.1 ∧ z_M o'.2 o.2 := by
  unfold f_M_resolvePart_134 at h
  unfold f_M_resolvePart_134
  refine lc_gR ((hE.fx hm) _ m_k1601).1 (hm _ m_k1601).1 h (fun h => ?_)
  refine lc_aI hE (m_arr_of m_k1601) h (fun i2 h => ?_)
  refine lc_if h (fun h => ?_) (fun h => ?_)
  · exact lc_some hE h
  · refine lc_gR ((hE.fx hm) _ m_k1793).1 (hm _ m_k1793).1 h (fun h => ?_)
    refine lc_gR ((hE.fx hm) _ m_k1601).1 (hm _ m_k1601).1 h (fun h => ?_)
    refine lc_aI hE (m_arr_of m_k1601) h (fun i5 h => ?_)
    refine lc_c h (fun q hq => lc_nn (l_M_ownColumn _ _ hE hm (er_nn hq))) (fun i6 s7 t7 hc hE1 h => ?_)
    have hm1 := (w_M_ownColumn _ _ _ hm (er_nn hc)).fx hm
    refine lc_sI hE1 (m_arr_of m_k1793) h (fun j2 h => ?_)
    have hE2 := hE1.sI 1812 j2 i6
    have hm2 := m_setAI 1812 j2 i6 hm1
    refine lc_gR ((hE2.fx hm2) _ m_k1665).1 (hm2 _ m_k1665).1 h (fun h => ?_)
    refine lc_aI hE2 (m_arr_of m_k1665) h (fun i10 h => ?_)
    refine lc_gR ((hE2.fx hm2) _ m_k1281).1 (hm2 _ m_k1281).1 h (fun h => ?_)
    refine lc_aI hE2 (m_arr_of m_k1281) h (fun i12 h => ?_)
    refine lc_c h (fun q hq => lc_nn (l_M_fresh _ _ _ _ hE2 hm2 (er_nn hq))) (fun v3 s14 t14 hc hE3 h => ?_)
    have hm3 := (w_M_fresh _ _ _ _ _ hm2 (er_nn hc)).fx hm2
    exact lc_some hE3 h
theorem l_M_resolvePart_57 : ∀ (n : Nat) (x1 : Int32) (x2 : Int32) {t0 s0 : g_St} {o : Unit × g_St}, z_M t0 s0 → m_Fix s0 → f_M_resolvePart_57 n (some 1) x1 x2 s0 = some o → ∃ o', f_M_resolvePart_57 n (some 1) x1 x2 t0 = some o' ∧ o'.1 = o.1 ∧ z_M o'.2 o.2 := by
  intro n
  induction n with
  | zero =>
    intro x1 x2 t0 s0 o hE hm h
    rw [f_M_resolvePart_57] at h
    cases h
  | succ n ih =>
    intro x1 x2 t0 s0 o hE hm h
    rw [f_M_resolvePart_57] at h
    rw [f_M_resolvePart_57]
    refine lc_gR ((hE.fx hm) _ m_k1281).1 (hm _ m_k1281).1 h (fun h => ?_)
    refine lc_aI hE (m_arr_of m_k1281) h (fun i2 h => ?_)
    refine lc_if h (fun h => ?_) (fun h => ?_)
    · refine lc_gR ((hE.fx hm) _ m_k1409).1 (hm _ m_k1409).1 h (fun h => ?_)
      refine lc_aI hE (m_arr_of m_k1409) h (fun i4 h => ?_)
      refine lc_if h (fun h => ?_) (fun h => ?_)
      · exact l_M_resolvePart_134 _ hE hm h
      · refine lc_gR ((hE.fx hm) _ m_k1729).1 (hm _ m_k1729).1 h (fun h => ?_)
        refine lc_gR ((hE.fx hm) _ m_k1473).1 (hm _ m_k1473).1 h (fun h => ?_)
        refine lc_aI hE (m_arr_of m_k1473) h (fun i7 h => ?_)
        refine lc_c h (fun q hq => lc_nn (l_M_ownColumn _ _ hE hm (er_nn hq))) (fun i8 s9 t9 hc hE1 h => ?_)
        have hm1 := (w_M_ownColumn _ _ _ hm (er_nn hc)).fx hm
        refine lc_sI hE1 (m_arr_of m_k1729) h (fun j2 h => ?_)
        have hE2 := hE1.sI 1748 j2 i8
        have hm2 := m_setAI 1748 j2 i8 hm1
        refine lc_gR ((hE2.fx hm2) _ m_k1537).1 (hm2 _ m_k1537).1 h (fun h => ?_)
        refine lc_aI hE2 (m_arr_of m_k1537) h (fun i12 h => ?_)
        refine lc_gR ((hE2.fx hm2) _ m_k1281).1 (hm2 _ m_k1281).1 h (fun h => ?_)
        refine lc_aI hE2 (m_arr_of m_k1281) h (fun i14 h => ?_)
        refine lc_c h (fun q hq => lc_nn (l_M_fresh _ _ _ _ hE2 hm2 (er_nn hq))) (fun v3 s16 t16 hc hE3 h => ?_)
        have hm3 := (w_M_fresh _ _ _ _ _ hm2 (er_nn hc)).fx hm2
        exact l_M_resolvePart_134 _ hE3 hm3 h
    · refine lc_gR ((hE.fx hm) _ m_k1345).1 (hm _ m_k1345).1 h (fun h => ?_)
      refine lc_aI hE (m_arr_of m_k1345) h (fun i18 h => ?_)
      refine lc_c h (fun q hq => lc_nn (l_M_fresh _ _ _ _ hE hm (er_nn hq))) (fun v4 s20 t20 hc hE4 h => ?_)
      have hm4 := (w_M_fresh _ _ _ _ _ hm (er_nn hc)).fx hm
      exact ih _ _ hE4 hm4 h
theorem l_M_resolvePart_2 : ∀ (n : Nat) (x1 : Int32) (x2 : Int32) {t0 s0 : g_St} {o : Unit × g_St}, z_M t0 s0 → m_Fix s0 → f_M_resolvePart_2 n (some 1) x1 x2 s0 = some o → ∃ o', f_M_resolvePart_2 n (some 1) x1 x2 t0 = some o' ∧ o'.1 = o.1 ∧ z_M o'.2 o.2 := by
  intro n
  induction n with
  | zero =>
    intro x1 x2 t0 s0 o hE hm h
    rw [f_M_resolvePart_2] at h
    cases h
  | succ n ih =>
    intro x1 x2 t0 s0 o hE hm h
    rw [f_M_resolvePart_2] at h
    rw [f_M_resolvePart_2]
    refine lc_if h (fun h => ?_) (fun h => ?_)
    · exact l_M_resolvePart_57 _ _ _ hE hm h
    · refine lc_gR ((hE.fx hm) _ m_k769).1 (hm _ m_k769).1 h (fun h => ?_)
      refine lc_gR ((hE.fx hm) _ m_k1217).1 (hm _ m_k1217).1 h (fun h => ?_)
      refine lc_aI hE (m_arr_of m_k1217) h (fun i3 h => ?_)
      refine lc_aL hE (m_arr_of m_k769) h (fun j4 h => ?_)
      refine lc_gR ((hE.fx hm) _ m_k769).1 (hm _ m_k769).1 h (fun h => ?_)
      refine lc_gR ((hE.fx hm) _ m_k1217).1 (hm _ m_k1217).1 h (fun h => ?_)
      refine lc_aI hE (m_arr_of m_k1217) h (fun i7 h => ?_)
      refine lc_aL hE (m_arr_of m_k769) h (fun j8 h => ?_)
      refine lc_if h (fun h => ?_) (fun h => ?_)
      · refine lc_gR ((hE.fx hm) _ m_k705).1 (hm _ m_k705).1 h (fun h => ?_)
        refine lc_gR ((hE.fx hm) _ m_k1217).1 (hm _ m_k1217).1 h (fun h => ?_)
        refine lc_aI hE (m_arr_of m_k1217) h (fun i11 h => ?_)
        refine lc_aI hE (m_arr_of m_k705) h (fun i12 h => ?_)
        refine lc_c h (fun q hq => lc_nn (l_M_note _ _ hE hm (er_nn hq))) (fun v1 s14 t14 hc hE1 h => ?_)
        have hm1 := (w_M_note _ _ _ hm (er_nn hc)).fx hm
        exact ih _ _ hE1 hm1 h
      · exact ih _ _ hE hm h
theorem l_M_resolvePart (x1 : Int32) {t0 s0 : g_St} {o : Unit × g_St} (hE : z_M t0 s0) (hm : m_Fix s0) (h : f_M_resolvePart (some 1) x1 s0 = some o) : ∃ o', f_M_resolvePart (some 1) x1 t0 = some o' ∧ o'.1 = o.1 ∧ z_M o'.2 o.2 := by
  unfold f_M_resolvePart at h
  unfold f_M_resolvePart
  exact l_M_resolvePart_2 _ _ _ hE hm h
theorem l_M_resolveOrder_111 {k32 k32' : Option Nat → Int32 → Int32 → g_St → Option (Unit × g_St)} (hk32 : ∀ (y1 : Int32) (y2 : Int32) {t s : g_St} {o : Unit × g_St}, z_M t s → m_Fix s → k32 (some 1) y1 y2 s = some o → ∃ o', k32' (some 1) y1 y2 t = some o' ∧ o'.1 = o.1 ∧ z_M o'.2 o.2) (x1 : Int32) (x2 : Int32) (x3 : Int32) (x1s : Int32) (x2s : Int32) {t0 s0 : g_St} {o : Unit × g_St} (hE : z_M t0 s0) (hm : m_Fix s0) (h : f_M_resolveOrder_111 k32 (some 1) x1 x2 x3 (some 3860) x1s x2s s0 = some o) : ∃ o', f_M_resolveOrder_111 k32' (some 1) x1 x2 x3 (some 3860) x1s x2s t0 = some o' ∧ o'.1 = o.1 ∧ z_M o'.2 o.2 := by
  unfold f_M_resolveOrder_111 at h
  unfold f_M_resolveOrder_111
  refine lc_sI hE (m_arr_of m_k4609) h (fun j1 h => ?_)
  have hE1 := hE.sI 3860 j1 x2s
  have hm1 := m_setAI 3860 j1 x2s hm
  refine lc_gR ((hE1.fx hm1) _ m_k4609).1 (hm1 _ m_k4609).1 h (fun h => ?_)
  refine lc_aI hE1 (m_arr_of m_k4609) h (fun i3 h => ?_)
  refine lc_if h (fun h => ?_) (fun h => ?_)
  · refine lc_gR ((hE1.fx hm1) _ m_k705).1 (hm1 _ m_k705).1 h (fun h => ?_)
    refine lc_aI hE1 (m_arr_of m_k705) h (fun i5 h => ?_)
    refine lc_c h (fun q hq => lc_nn (l_M_note _ _ hE1 hm1 (er_nn hq))) (fun v2 s7 t7 hc hE2 h => ?_)
    have hm2 := (w_M_note _ _ _ hm1 (er_nn hc)).fx hm1
    exact hk32 _ _ hE2 hm2 h
  · exact hk32 _ _ hE1 hm1 h
theorem l_M_resolveOrder_32 : ∀ (n : Nat) (x1 : Int32) (x2 : Int32) {t0 s0 : g_St} {o : Unit × g_St}, z_M t0 s0 → m_Fix s0 → f_M_resolveOrder_32 n (some 1) x1 x2 s0 = some o → ∃ o', f_M_resolveOrder_32 n (some 1) x1 x2 t0 = some o' ∧ o'.1 = o.1 ∧ z_M o'.2 o.2 := by
  intro n
  induction n with
  | zero =>
    intro x1 x2 t0 s0 o hE hm h
    rw [f_M_resolveOrder_32] at h
    cases h
  | succ n ih =>
    intro x1 x2 t0 s0 o hE hm h
    rw [f_M_resolveOrder_32] at h
    rw [f_M_resolveOrder_32]
    refine lc_gI hE (by decide) h (fun i1 h => ?_)
    refine lc_if h (fun h => ?_) (fun h => ?_)
    · exact lc_some hE h
    · refine lc_gR ((hE.fx hm) _ m_k4481).1 (hm _ m_k4481).1 h (fun h => ?_)
      refine lc_aI hE (m_arr_of m_k4481) h (fun i3 h => ?_)
      refine lc_gR ((hE.fx hm) _ m_k769).1 (hm _ m_k769).1 h (fun h => ?_)
      refine lc_aL hE (m_arr_of m_k769) h (fun j5 h => ?_)
      refine lc_c h (fun q hq => lc_nn (l_M_slotOf _ _ _ hE hm (er_nn hq))) (fun i6 s7 t7 hc hE1 h => ?_)
      have hm1 := (w_M_slotOf _ _ _ _ hm (er_nn hc)).fx hm
      refine lc_gR ((hE1.fx hm1) _ m_k4545).1 (hm1 _ m_k4545).1 h (fun h => ?_)
      refine lc_sI hE1 (m_arr_of m_k4545) h (fun j2 h => ?_)
      have hE2 := hE1.sI 3796 j2 i6
      have hm2 := m_setAI 3796 j2 i6 hm1
      refine lc_gR ((hE2.fx hm2) _ m_k4609).1 (hm2 _ m_k4609).1 h (fun h => ?_)
      refine lc_if h (fun h => ?_) (fun h => ?_)
      · exact l_M_resolveOrder_111 ih _ _ _ _ _ hE2 hm2 h
      · refine lc_gR ((hE2.fx hm2) _ m_k3777).1 (hm2 _ m_k3777).1 h (fun h => ?_)
        refine lc_gR ((hE2.fx hm2) _ m_k2497).1 (hm2 _ m_k2497).1 h (fun h => ?_)
        refine lc_aI hE2 (m_arr_of m_k2497) h (fun i13 h => ?_)
        refine lc_aI hE2 (m_arr_of m_k3777) h (fun i14 h => ?_)
        refine lc_gR ((hE2.fx hm2) _ m_k769).1 (hm2 _ m_k769).1 h (fun h => ?_)
        refine lc_aL hE2 (m_arr_of m_k769) h (fun j16 h => ?_)
        refine lc_c h (fun q hq => lc_nn (l_M_columnOf _ _ _ hE2 hm2 (er_nn hq))) (fun i17 s18 t18 hc hE3 h => ?_)
        have hm3 := (w_M_columnOf _ _ _ _ hm2 (er_nn hc)).fx hm2
        exact l_M_resolveOrder_111 ih _ _ _ _ _ hE3 hm3 h
theorem l_M_resolveOrder (x1 : Int32) {t0 s0 : g_St} {o : Unit × g_St} (hE : z_M t0 s0) (hm : m_Fix s0) (h : f_M_resolveOrder (some 1) x1 s0 = some o) : ∃ o', f_M_resolveOrder (some 1) x1 t0 = some o' ∧ o'.1 = o.1 ∧ z_M o'.2 o.2 := by
  unfold f_M_resolveOrder at h
  unfold f_M_resolveOrder
  refine lc_gI hE (by decide) h (fun i1 h => ?_)
  refine lc_if h (fun h => ?_) (fun h => ?_)
  · exact l_M_resolveOrder_32 _ _ _ hE hm h
  · refine lc_gR ((hE.fx hm) _ m_k2753).1 (hm _ m_k2753).1 h (fun h => ?_)
    refine lc_aI hE (m_arr_of m_k2753) h (fun i3 h => ?_)
    refine lc_if h (fun h => ?_) (fun h => ?_)
    · exact l_M_resolveOrder_32 _ _ _ hE hm h
    · refine lc_gR ((hE.fx hm) _ m_k705).1 (hm _ m_k705).1 h (fun h => ?_)
      refine lc_gI hE (by decide) h (fun i5 h => ?_)
      refine lc_aI hE (m_arr_of m_k705) h (fun i6 h => ?_)
      refine lc_c h (fun q hq => lc_nn (l_M_note _ _ hE hm (er_nn hq))) (fun v1 s8 t8 hc hE1 h => ?_)
      have hm1 := (w_M_note _ _ _ hm (er_nn hc)).fx hm
      exact l_M_resolveOrder_32 _ _ _ hE1 hm1 h
theorem l_M_partNamed (x1 : Int32) {t0 s0 : g_St} {o : Int32 × g_St} (hE : z_M t0 s0) (hm : m_Fix s0) (h : f_M_partNamed (some 1) x1 s0 = some o) : ∃ o', f_M_partNamed (some 1) x1 t0 = some o' ∧ o'.1 = o.1 ∧ z_M o'.2 o.2 := by
  unfold f_M_partNamed at h
  unfold f_M_partNamed
  refine lc_gR ((hE.fx hm) _ m_k3777).1 (hm _ m_k3777).1 h (fun h => ?_)
  refine lc_aI hE (m_arr_of m_k3777) h (fun i2 h => ?_)
  refine lc_if h (fun h => ?_) (fun h => ?_)
  · exact lc_some hE h
  · refine lc_gR ((hE.fx hm) _ m_k3777).1 (hm _ m_k3777).1 h (fun h => ?_)
    refine lc_aI hE (m_arr_of m_k3777) h (fun i4 h => ?_)
    exact lc_some hE h
theorem l_M_named_41 : ∀ (n : Nat) (x1 : Int32) (x2 : Int32) (x3 : Int32) (x4 : Int32) {t0 s0 : g_St} {o : Int32 × g_St}, z_M t0 s0 → m_Fix s0 → f_M_named_41 n (some 1) x1 x2 x3 x4 s0 = some o → ∃ o', f_M_named_41 n (some 1) x1 x2 x3 x4 t0 = some o' ∧ o'.1 = o.1 ∧ z_M o'.2 o.2 := by
  intro n
  induction n with
  | zero =>
    intro x1 x2 x3 x4 t0 s0 o hE hm h
    rw [f_M_named_41] at h
    cases h
  | succ n ih =>
    intro x1 x2 x3 x4 t0 s0 o hE hm h
    rw [f_M_named_41] at h
    rw [f_M_named_41]
    refine lc_if h (fun h => ?_) (fun h => ?_)
    · exact lc_some hE h
    · refine lc_gR ((hE.fx hm) _ m_k2625).1 (hm _ m_k2625).1 h (fun h => ?_)
      refine lc_aI hE (m_arr_of m_k2625) h (fun i2 h => ?_)
      refine lc_if h (fun h => ?_) (fun h => ?_)
      · exact lc_some hE h
      · refine lc_gR ((hE.fx hm) _ m_k2689).1 (hm _ m_k2689).1 h (fun h => ?_)
        refine lc_aI hE (m_arr_of m_k2689) h (fun i4 h => ?_)
        refine lc_gR ((hE.fx hm) _ m_k3905).1 (hm _ m_k3905).1 h (fun h => ?_)
        refine lc_aI hE (m_arr_of m_k3905) h (fun i6 h => ?_)
        refine lc_if h (fun h => ?_) (fun h => ?_)
        · refine lc_gR ((hE.fx hm) _ m_k4161).1 (hm _ m_k4161).1 h (fun h => ?_)
          refine lc_aI hE (m_arr_of m_k4161) h (fun i8 h => ?_)
          refine lc_c h (fun q hq => lc_nn (l_M_partNamed _ hE hm (er_nn hq))) (fun i9 s10 t10 hc hE1 h => ?_)
          have hm1 := (w_M_partNamed _ _ hm (er_nn hc)).fx hm
          exact ih _ _ _ _ hE1 hm1 h
        · exact ih _ _ _ _ hE hm h
theorem l_M_named_5 : ∀ (n : Nat) (x1 : Int32) (x2 : Int32) (x3 : Int32) (x4 : Int32) {t0 s0 : g_St} {o : Int32 × g_St}, z_M t0 s0 → m_Fix s0 → f_M_named_5 n (some 1) x1 x2 x3 x4 s0 = some o → ∃ o', f_M_named_5 n (some 1) x1 x2 x3 x4 t0 = some o' ∧ o'.1 = o.1 ∧ z_M o'.2 o.2 := by
  intro n
  induction n with
  | zero =>
    intro x1 x2 x3 x4 t0 s0 o hE hm h
    rw [f_M_named_5] at h
    cases h
  | succ n ih =>
    intro x1 x2 x3 x4 t0 s0 o hE hm h
    rw [f_M_named_5] at h
    rw [f_M_named_5]
    refine lc_gR ((hE.fx hm) _ m_k2561).1 (hm _ m_k2561).1 h (fun h => ?_)
    refine lc_aI hE (m_arr_of m_k2561) h (fun i2 h => ?_)
    refine lc_if h (fun h => ?_) (fun h => ?_)
    · exact l_M_named_41 _ _ _ _ _ hE hm h
    · refine lc_gR ((hE.fx hm) _ m_k2497).1 (hm _ m_k2497).1 h (fun h => ?_)
      refine lc_aI hE (m_arr_of m_k2497) h (fun i4 h => ?_)
      refine lc_c h (fun q hq => lc_nn (l_M_partNamed _ hE hm (er_nn hq))) (fun i5 s6 t6 hc hE1 h => ?_)
      have hm1 := (w_M_partNamed _ _ hm (er_nn hc)).fx hm
      exact ih _ _ _ _ hE1 hm1 h
theorem l_M_named (x1 : Int32) (x2 : Int32) {t0 s0 : g_St} {o : Int32 × g_St} (hE : z_M t0 s0) (hm : m_Fix s0) (h : f_M_named (some 1) x1 x2 s0 = some o) : ∃ o', f_M_named (some 1) x1 x2 t0 = some o' ∧ o'.1 = o.1 ∧ z_M o'.2 o.2 := by
  unfold f_M_named at h
  unfold f_M_named
  exact l_M_named_5 _ _ _ _ _ hE hm h
theorem l_M_together_6 : ∀ (n : Nat) (x1 : Int32) (x2 : Int32) (x3 : Int32) {t0 s0 : g_St} {o : Int32 × g_St}, z_M t0 s0 → m_Fix s0 → f_M_together_6 n (some 1) x1 x2 x3 s0 = some o → ∃ o', f_M_together_6 n (some 1) x1 x2 x3 t0 = some o' ∧ o'.1 = o.1 ∧ z_M o'.2 o.2 := by
  intro n
  induction n with
  | zero =>
    intro x1 x2 x3 t0 s0 o hE hm h
    rw [f_M_together_6] at h
    cases h
  | succ n ih =>
    intro x1 x2 x3 t0 s0 o hE hm h
    rw [f_M_together_6] at h
    rw [f_M_together_6]
    refine lc_gI hE (by decide) h (fun i1 h => ?_)
    refine lc_if h (fun h => ?_) (fun h => ?_)
    · exact lc_some hE h
    · refine lc_gR ((hE.fx hm) _ m_k4737).1 (hm _ m_k4737).1 h (fun h => ?_)
      refine lc_aI hE (m_arr_of m_k4737) h (fun i3 h => ?_)
      refine lc_if h (fun h => ?_) (fun h => ?_)
      · refine lc_gR ((hE.fx hm) _ m_k4737).1 (hm _ m_k4737).1 h (fun h => ?_)
        refine lc_aI hE (m_arr_of m_k4737) h (fun i5 h => ?_)
        refine lc_if h (fun h => ?_) (fun h => ?_)
        · exact ih _ _ _ hE hm h
        · exact ih _ _ _ hE hm h
      · exact ih _ _ _ hE hm h
theorem l_M_together (x1 : Int32) {t0 s0 : g_St} {o : Int32 × g_St} (hE : z_M t0 s0) (hm : m_Fix s0) (h : f_M_together (some 1) x1 s0 = some o) : ∃ o', f_M_together (some 1) x1 t0 = some o' ∧ o'.1 = o.1 ∧ z_M o'.2 o.2 := by
  unfold f_M_together at h
  unfold f_M_together
  exact l_M_together_6 _ _ _ _ hE hm h
theorem l_M_findComponents_229 {k163 k163' : Option Nat → Int32 → g_St → Option (Unit × g_St)} (hk163 : ∀ (y1 : Int32) {t s : g_St} {o : Unit × g_St}, z_M t s → m_Fix s → k163 (some 1) y1 s = some o → ∃ o', k163' (some 1) y1 t = some o' ∧ o'.1 = o.1 ∧ z_M o'.2 o.2) : ∀ (n : Nat) (x1 : Int32) (x2 : Int32) (x3 : Int32) {t0 s0 : g_St} {o : Unit × g_St}, z_M t0 s0 → m_Fix s0 → f_M_findComponents_229 k163 n (some 1) x1 x2 x3 s0 = some o → ∃ o', f_M_findComponents_229 k163' n (some 1) x1 x2 x3 t0 = some o' ∧ o'.1 = o.1 ∧ z_M o'.2 o.2 := by
  intro n
  induction n with
  | zero =>
    intro x1 x2 x3 t0 s0 o hE hm h
    rw [f_M_findComponents_229] at h
    cases h
  | succ n ih =>
    intro x1 x2 x3 t0 s0 o hE hm h
    rw [f_M_findComponents_229] at h
    rw [f_M_findComponents_229]
    refine lc_gI hE (by decide) h (fun i1 h => ?_)
    refine lc_if h (fun h => ?_) (fun h => ?_)
    · refine lc_c h (fun q hq => lc_nn (l_M_together _ hE hm (er_nn hq))) (fun i2 s3 t3 hc hE1 h => ?_)
      have hm1 := (w_M_together _ _ hm (er_nn hc)).fx hm
      refine lc_gI hE1 (by decide) h (fun i4 h => ?_)
      refine lc_pI h (fun h => ?_)
      have hE2 := hE1.pI 4865 (i4 + 1)
      have hm2 := m_setI 4865 (i4 + 1) hm1
      exact hk163 _ hE2 hm2 h
    · refine lc_c h (fun q hq => lc_nn (l_M_together _ hE hm (er_nn hq))) (fun i6 s7 t7 hc hE3 h => ?_)
      have hm3 := (w_M_together _ _ hm (er_nn hc)).fx hm
      refine lc_if h (fun h => ?_) (fun h => ?_)
      · refine lc_gR ((hE3.fx hm3) _ m_k4801).1 (hm3 _ m_k4801).1 h (fun h => ?_)
        refine lc_gI hE3 (by decide) h (fun i9 h => ?_)
        refine lc_sI hE3 (m_arr_of m_k4801) h (fun j4 h => ?_)
        have hE4 := hE3.sI 4052 j4 i9
        have hm4 := m_setAI 4052 j4 i9 hm3
        exact ih _ _ _ hE4 hm4 h
      · exact ih _ _ _ hE3 hm3 h
theorem l_M_findComponents_184 {k163 k163' : Option Nat → Int32 → g_St → Option (Unit × g_St)} (hk163 : ∀ (y1 : Int32) {t s : g_St} {o : Unit × g_St}, z_M t s → m_Fix s → k163 (some 1) y1 s = some o → ∃ o', k163' (some 1) y1 t = some o' ∧ o'.1 = o.1 ∧ z_M o'.2 o.2) : ∀ (n : Nat) (x1 : Int32) (x2 : Int32) (x3 : Int32) {t0 s0 : g_St} {o : Unit × g_St}, z_M t0 s0 → m_Fix s0 → f_M_findComponents_184 k163 n (some 1) x1 x2 x3 s0 = some o → ∃ o', f_M_findComponents_184 k163' n (some 1) x1 x2 x3 t0 = some o' ∧ o'.1 = o.1 ∧ z_M o'.2 o.2 := by
  intro n
  induction n with
  | zero =>
    intro x1 x2 x3 t0 s0 o hE hm h
    rw [f_M_findComponents_184] at h
    cases h
  | succ n ih =>
    intro x1 x2 x3 t0 s0 o hE hm h
    rw [f_M_findComponents_184] at h
    rw [f_M_findComponents_184]
    refine lc_if h (fun h => ?_) (fun h => ?_)
    · exact l_M_findComponents_229 hk163 _ _ _ _ hE hm h
    · refine lc_gR ((hE.fx hm) _ m_k4801).1 (hm _ m_k4801).1 h (fun h => ?_)
      refine lc_aI hE (m_arr_of m_k4801) h (fun i2 h => ?_)
      refine lc_if h (fun h => ?_) (fun h => ?_)
      · refine lc_gR ((hE.fx hm) _ m_k4737).1 (hm _ m_k4737).1 h (fun h => ?_)
        refine lc_aI hE (m_arr_of m_k4737) h (fun i4 h => ?_)
        refine lc_c h (fun q hq => lc_nn (l_M_together _ hE hm (er_nn hq))) (fun i5 s6 t6 hc hE1 h => ?_)
        have hm1 := (w_M_together _ _ hm (er_nn hc)).fx hm
        refine lc_if h (fun h => ?_) (fun h => ?_)
        · exact ih _ _ _ hE1 hm1 h
        · exact ih _ _ _ hE1 hm1 h
      · exact ih _ _ _ hE hm h
theorem l_M_findComponents_163 : ∀ (n : Nat) (x1 : Int32) {t0 s0 : g_St} {o : Unit × g_St}, z_M t0 s0 → m_Fix s0 → f_M_findComponents_163 n (some 1) x1 s0 = some o → ∃ o', f_M_findComponents_163 n (some 1) x1 t0 = some o' ∧ o'.1 = o.1 ∧ z_M o'.2 o.2 := by
  intro n
  induction n with
  | zero =>
    intro x1 t0 s0 o hE hm h
    rw [f_M_findComponents_163] at h
    cases h
  | succ n ih =>
    intro x1 t0 s0 o hE hm h
    rw [f_M_findComponents_163] at h
    rw [f_M_findComponents_163]
    refine lc_gI hE (by decide) h (fun i1 h => ?_)
    refine lc_if h (fun h => ?_) (fun h => ?_)
    · exact lc_some hE h
    · refine lc_gI hE (by decide) h (fun i2 h => ?_)
      exact l_M_findComponents_184 ih _ _ _ _ hE hm h
theorem l_M_findComponents_101 {k91 k91' : Option Nat → Int32 → Int32 → g_St → Option (Unit × g_St)} (hk91 : ∀ (y1 : Int32) (y2 : Int32) {t s : g_St} {o : Unit × g_St}, z_M t s → m_Fix s → k91 (some 1) y1 y2 s = some o → ∃ o', k91' (some 1) y1 y2 t = some o' ∧ o'.1 = o.1 ∧ z_M o'.2 o.2) : ∀ (n : Nat) (x1 : Int32) (x2 : Int32) (x3 : Int32) {t0 s0 : g_St} {o : Unit × g_St}, z_M t0 s0 → m_Fix s0 → f_M_findComponents_101 k91 n (some 1) x1 x2 x3 s0 = some o → ∃ o', f_M_findComponents_101 k91' n (some 1) x1 x2 x3 t0 = some o' ∧ o'.1 = o.1 ∧ z_M o'.2 o.2 := by
  intro n
  induction n with
  | zero =>
    intro x1 x2 x3 t0 s0 o hE hm h
    rw [f_M_findComponents_101] at h
    cases h
  | succ n ih =>
    intro x1 x2 x3 t0 s0 o hE hm h
    rw [f_M_findComponents_101] at h
    rw [f_M_findComponents_101]
    refine lc_gI hE (by decide) h (fun i1 h => ?_)
    refine lc_if h (fun h => ?_) (fun h => ?_)
    · exact hk91 _ _ hE hm h
    · refine lc_gR ((hE.fx hm) _ m_k4737).1 (hm _ m_k4737).1 h (fun h => ?_)
      refine lc_aI hE (m_arr_of m_k4737) h (fun i3 h => ?_)
      refine lc_if h (fun h => ?_) (fun h => ?_)
      · refine lc_gR ((hE.fx hm) _ m_k4737).1 (hm _ m_k4737).1 h (fun h => ?_)
        refine lc_aI hE (m_arr_of m_k4737) h (fun i5 h => ?_)
        refine lc_gR ((hE.fx hm) _ m_k4737).1 (hm _ m_k4737).1 h (fun h => ?_)
        refine lc_aI hE (m_arr_of m_k4737) h (fun i7 h => ?_)
        refine lc_sI hE (m_arr_of m_k4737) h (fun j1 h => ?_)
        have hE1 := hE.sI 3988 j1 (i5 ||| i7)
        have hm1 := m_setAI 3988 j1 (i5 ||| i7) hm
        exact ih _ _ _ hE1 hm1 h
      · exact ih _ _ _ hE hm h
theorem l_M_findComponents_91 {k84 k84' : Option Nat → Int32 → g_St → Option (Unit × g_St)} (hk84 : ∀ (y1 : Int32) {t s : g_St} {o : Unit × g_St}, z_M t s → m_Fix s → k84 (some 1) y1 s = some o → ∃ o', k84' (some 1) y1 t = some o' ∧ o'.1 = o.1 ∧ z_M o'.2 o.2) : ∀ (n : Nat) (x1 : Int32) (x2 : Int32) {t0 s0 : g_St} {o : Unit × g_St}, z_M t0 s0 → m_Fix s0 → f_M_findComponents_91 k84 n (some 1) x1 x2 s0 = some o → ∃ o', f_M_findComponents_91 k84' n (some 1) x1 x2 t0 = some o' ∧ o'.1 = o.1 ∧ z_M o'.2 o.2 := by
  intro n
  induction n with
  | zero =>
    intro x1 x2 t0 s0 o hE hm h
    rw [f_M_findComponents_91] at h
    cases h
  | succ n ih =>
    intro x1 x2 t0 s0 o hE hm h
    rw [f_M_findComponents_91] at h
    rw [f_M_findComponents_91]
    refine lc_gI hE (by decide) h (fun i1 h => ?_)
    refine lc_if h (fun h => ?_) (fun h => ?_)
    · exact hk84 _ hE hm h
    · exact l_M_findComponents_101 ih _ _ _ _ hE hm h
theorem l_M_findComponents_84 : ∀ (n : Nat) (x1 : Int32) {t0 s0 : g_St} {o : Unit × g_St}, z_M t0 s0 → m_Fix s0 → f_M_findComponents_84 n (some 1) x1 s0 = some o → ∃ o', f_M_findComponents_84 n (some 1) x1 t0 = some o' ∧ o'.1 = o.1 ∧ z_M o'.2 o.2 := by
  intro n
  induction n with
  | zero =>
    intro x1 t0 s0 o hE hm h
    rw [f_M_findComponents_84] at h
    cases h
  | succ n ih =>
    intro x1 t0 s0 o hE hm h
    rw [f_M_findComponents_84] at h
    rw [f_M_findComponents_84]
    refine lc_if h (fun h => ?_) (fun h => ?_)
    · refine lc_pI h (fun h => ?_)
      have hE1 := hE.pI 4865 0
      have hm1 := m_setI 4865 0 hm
      exact l_M_findComponents_163 _ _ hE1 hm1 h
    · exact l_M_findComponents_91 ih _ _ _ hE hm h
theorem l_M_findComponents_19 {k2 k2' : Option Nat → Int32 → g_St → Option (Unit × g_St)} (hk2 : ∀ (y1 : Int32) {t s : g_St} {o : Unit × g_St}, z_M t s → m_Fix s → k2 (some 1) y1 s = some o → ∃ o', k2' (some 1) y1 t = some o' ∧ o'.1 = o.1 ∧ z_M o'.2 o.2) : ∀ (n : Nat) (x1 : Int32) (x2 : Int32) {t0 s0 : g_St} {o : Unit × g_St}, z_M t0 s0 → m_Fix s0 → f_M_findComponents_19 k2 n (some 1) x1 x2 s0 = some o → ∃ o', f_M_findComponents_19 k2' n (some 1) x1 x2 t0 = some o' ∧ o'.1 = o.1 ∧ z_M o'.2 o.2 := by
  intro n
  induction n with
  | zero =>
    intro x1 x2 t0 s0 o hE hm h
    rw [f_M_findComponents_19] at h
    cases h
  | succ n ih =>
    intro x1 x2 t0 s0 o hE hm h
    rw [f_M_findComponents_19] at h
    rw [f_M_findComponents_19]
    refine lc_gR ((hE.fx hm) _ m_k2049).1 (hm _ m_k2049).1 h (fun h => ?_)
    refine lc_aI hE (m_arr_of m_k2049) h (fun i2 h => ?_)
    refine lc_if h (fun h => ?_) (fun h => ?_)
    · refine lc_gR ((hE.fx hm) _ m_k4737).1 (hm _ m_k4737).1 h (fun h => ?_)
      refine lc_gR ((hE.fx hm) _ m_k4673).1 (hm _ m_k4673).1 h (fun h => ?_)
      refine lc_aI hE (m_arr_of m_k4673) h (fun i5 h => ?_)
      refine lc_sI hE (m_arr_of m_k4737) h (fun j1 h => ?_)
      have hE1 := hE.sI 3988 j1 i5
      have hm1 := m_setAI 3988 j1 i5 hm
      refine lc_gR ((hE1.fx hm1) _ m_k4801).1 (hm1 _ m_k4801).1 h (fun h => ?_)
      refine lc_sI hE1 (m_arr_of m_k4801) h (fun j2 h => ?_)
      have hE2 := hE1.sI 4052 j2 (-1)
      have hm2 := m_setAI 4052 j2 (-1) hm1
      exact hk2 _ hE2 hm2 h
    · refine lc_gR ((hE.fx hm) _ m_k4673).1 (hm _ m_k4673).1 h (fun h => ?_)
      refine lc_aI hE (m_arr_of m_k4673) h (fun i10 h => ?_)
      refine lc_gR ((hE.fx hm) _ m_k1985).1 (hm _ m_k1985).1 h (fun h => ?_)
      refine lc_aI hE (m_arr_of m_k1985) h (fun i12 h => ?_)
      refine lc_c h (fun q hq => lc_nn (l_M_named _ _ hE hm (er_nn hq))) (fun i13 s14 t14 hc hE3 h => ?_)
      have hm3 := (w_M_named _ _ _ hm (er_nn hc)).fx hm
      refine lc_sI hE3 (m_arr_of m_k4673) h (fun j4 h => ?_)
      have hE4 := hE3.sI 3924 j4 (i10 ||| i13)
      have hm4 := m_setAI 3924 j4 (i10 ||| i13) hm3
      exact ih _ _ hE4 hm4 h
theorem l_M_findComponents_2 : ∀ (n : Nat) (x1 : Int32) {t0 s0 : g_St} {o : Unit × g_St}, z_M t0 s0 → m_Fix s0 → f_M_findComponents_2 n (some 1) x1 s0 = some o → ∃ o', f_M_findComponents_2 n (some 1) x1 t0 = some o' ∧ o'.1 = o.1 ∧ z_M o'.2 o.2 := by
  intro n
  induction n with
  | zero =>
    intro x1 t0 s0 o hE hm h
    rw [f_M_findComponents_2] at h
    cases h
  | succ n ih =>
    intro x1 t0 s0 o hE hm h
    rw [f_M_findComponents_2] at h
    rw [f_M_findComponents_2]
    refine lc_gI hE (by decide) h (fun i1 h => ?_)
    refine lc_if h (fun h => ?_) (fun h => ?_)
    · exact l_M_findComponents_84 _ _ hE hm h
    · refine lc_gR ((hE.fx hm) _ m_k4673).1 (hm _ m_k4673).1 h (fun h => ?_)
      refine lc_sI hE (m_arr_of m_k4673) h (fun j1 h => ?_)
      have hE1 := hE.sI 3924 j1 0
      have hm1 := m_setAI 3924 j1 0 hm
      exact l_M_findComponents_19 ih _ _ _ hE1 hm1 h
theorem l_M_findComponents  {t0 s0 : g_St} {o : Unit × g_St} (hE : z_M t0 s0) (hm : m_Fix s0) (h : f_M_findComponents (some 1) s0 = some o) : ∃ o', f_M_findComponents (some 1) t0 = some o' ∧ o'.1 = o.1 ∧ z_M o'.2 o.2 := by
  unfold f_M_findComponents at h
  unfold f_M_findComponents
  exact l_M_findComponents_2 _ _ hE hm h
theorem l_M_isRecursive (x1 : Int32) {t0 s0 : g_St} {o : Int32 × g_St} (hE : z_M t0 s0) (hm : m_Fix s0) (h : f_M_isRecursive (some 1) x1 s0 = some o) : ∃ o', f_M_isRecursive (some 1) x1 t0 = some o' ∧ o'.1 = o.1 ∧ z_M o'.2 o.2 := by
  unfold f_M_isRecursive at h
  unfold f_M_isRecursive
  refine lc_gR ((hE.fx hm) _ m_k4737).1 (hm _ m_k4737).1 h (fun h => ?_)
  refine lc_aI hE (m_arr_of m_k4737) h (fun i2 h => ?_)
  refine lc_if h (fun h => ?_) (fun h => ?_)
  · exact lc_rZ h (fun h => lc_some hE h)
  · exact lc_rZ h (fun h => lc_some hE h)
theorem l_M_checkBarred_69 : ∀ (n : Nat) (x1 : Int32) (x2 : Int32) (x3 : Int32) {t0 s0 : g_St} {o : Unit × g_St}, z_M t0 s0 → m_Fix s0 → f_M_checkBarred_69 n (some 1) x1 x2 x3 s0 = some o → ∃ o', f_M_checkBarred_69 n (some 1) x1 x2 x3 t0 = some o' ∧ o'.1 = o.1 ∧ z_M o'.2 o.2 := by
  intro n
  induction n with
  | zero =>
    intro x1 x2 x3 t0 s0 o hE hm h
    rw [f_M_checkBarred_69] at h
    cases h
  | succ n ih =>
    intro x1 x2 x3 t0 s0 o hE hm h
    rw [f_M_checkBarred_69] at h
    rw [f_M_checkBarred_69]
    refine lc_gR ((hE.fx hm) _ m_k2625).1 (hm _ m_k2625).1 h (fun h => ?_)
    refine lc_aI hE (m_arr_of m_k2625) h (fun i2 h => ?_)
    refine lc_if h (fun h => ?_) (fun h => ?_)
    · exact lc_some hE h
    · refine lc_gR ((hE.fx hm) _ m_k2689).1 (hm _ m_k2689).1 h (fun h => ?_)
      refine lc_aI hE (m_arr_of m_k2689) h (fun i4 h => ?_)
      refine lc_gR ((hE.fx hm) _ m_k3905).1 (hm _ m_k3905).1 h (fun h => ?_)
      refine lc_aI hE (m_arr_of m_k3905) h (fun i6 h => ?_)
      refine lc_if h (fun h => ?_) (fun h => ?_)
      · refine lc_gR ((hE.fx hm) _ m_k4161).1 (hm _ m_k4161).1 h (fun h => ?_)
        refine lc_aI hE (m_arr_of m_k4161) h (fun i8 h => ?_)
        refine lc_c h (fun q hq => lc_nn (l_M_partNamed _ hE hm (er_nn hq))) (fun i9 s10 t10 hc hE1 h => ?_)
        have hm1 := (w_M_partNamed _ _ hm (er_nn hc)).fx hm
        refine lc_if h (fun h => ?_) (fun h => ?_)
        · exact ih _ _ _ hE1 hm1 h
        · refine lc_gR ((hE1.fx hm1) _ m_k705).1 (hm1 _ m_k705).1 h (fun h => ?_)
          refine lc_gR ((hE1.fx hm1) _ m_k3649).1 (hm1 _ m_k3649).1 h (fun h => ?_)
          refine lc_gR ((hE1.fx hm1) _ m_k4161).1 (hm1 _ m_k4161).1 h (fun h => ?_)
          refine lc_aI hE1 (m_arr_of m_k4161) h (fun i14 h => ?_)
          refine lc_aI hE1 (m_arr_of m_k3649) h (fun i15 h => ?_)
          refine lc_aI hE1 (m_arr_of m_k705) h (fun i16 h => ?_)
          refine lc_c h (fun q hq => lc_nn (l_M_note _ _ hE1 hm1 (er_nn hq))) (fun v2 s18 t18 hc hE2 h => ?_)
          have hm2 := (w_M_note _ _ _ hm1 (er_nn hc)).fx hm1
          exact ih _ _ _ hE2 hm2 h
      · exact ih _ _ _ hE hm h
theorem l_M_checkBarred_2 : ∀ (n : Nat) (x1 : Int32) (x2 : Int32) (x3 : Int32) {t0 s0 : g_St} {o : Unit × g_St}, z_M t0 s0 → m_Fix s0 → f_M_checkBarred_2 n (some 1) x1 x2 x3 s0 = some o → ∃ o', f_M_checkBarred_2 n (some 1) x1 x2 x3 t0 = some o' ∧ o'.1 = o.1 ∧ z_M o'.2 o.2 := by
  intro n
  induction n with
  | zero =>
    intro x1 x2 x3 t0 s0 o hE hm h
    rw [f_M_checkBarred_2] at h
    cases h
  | succ n ih =>
    intro x1 x2 x3 t0 s0 o hE hm h
    rw [f_M_checkBarred_2] at h
    rw [f_M_checkBarred_2]
    refine lc_gR ((hE.fx hm) _ m_k2753).1 (hm _ m_k2753).1 h (fun h => ?_)
    refine lc_aI hE (m_arr_of m_k2753) h (fun i2 h => ?_)
    refine lc_if h (fun h => ?_) (fun h => ?_)
    · exact l_M_checkBarred_69 _ _ _ _ hE hm h
    · refine lc_gR ((hE.fx hm) _ m_k2561).1 (hm _ m_k2561).1 h (fun h => ?_)
      refine lc_aI hE (m_arr_of m_k2561) h (fun i4 h => ?_)
      refine lc_if h (fun h => ?_) (fun h => ?_)
      · exact l_M_checkBarred_69 _ _ _ _ hE hm h
      · refine lc_gR ((hE.fx hm) _ m_k2497).1 (hm _ m_k2497).1 h (fun h => ?_)
        refine lc_aI hE (m_arr_of m_k2497) h (fun i6 h => ?_)
        refine lc_c h (fun q hq => lc_nn (l_M_partNamed _ hE hm (er_nn hq))) (fun i7 s8 t8 hc hE1 h => ?_)
        have hm1 := (w_M_partNamed _ _ hm (er_nn hc)).fx hm
        refine lc_if h (fun h => ?_) (fun h => ?_)
        · exact ih _ _ _ hE1 hm1 h
        · refine lc_gR ((hE1.fx hm1) _ m_k705).1 (hm1 _ m_k705).1 h (fun h => ?_)
          refine lc_gR ((hE1.fx hm1) _ m_k3649).1 (hm1 _ m_k3649).1 h (fun h => ?_)
          refine lc_gR ((hE1.fx hm1) _ m_k2497).1 (hm1 _ m_k2497).1 h (fun h => ?_)
          refine lc_aI hE1 (m_arr_of m_k2497) h (fun i12 h => ?_)
          refine lc_aI hE1 (m_arr_of m_k3649) h (fun i13 h => ?_)
          refine lc_aI hE1 (m_arr_of m_k705) h (fun i14 h => ?_)
          refine lc_c h (fun q hq => lc_nn (l_M_note _ _ hE1 hm1 (er_nn hq))) (fun v2 s16 t16 hc hE2 h => ?_)
          have hm2 := (w_M_note _ _ _ hm1 (er_nn hc)).fx hm1
          exact ih _ _ _ hE2 hm2 h
theorem l_M_checkBarred (x1 : Int32) (x2 : Int32) {t0 s0 : g_St} {o : Unit × g_St} (hE : z_M t0 s0) (hm : m_Fix s0) (h : f_M_checkBarred (some 1) x1 x2 s0 = some o) : ∃ o', f_M_checkBarred (some 1) x1 x2 t0 = some o' ∧ o'.1 = o.1 ∧ z_M o'.2 o.2 := by
  unfold f_M_checkBarred at h
  unfold f_M_checkBarred
  exact l_M_checkBarred_2 _ _ _ _ hE hm h
theorem l_M_timesNamed_54 : ∀ (n : Nat) (x1 : Int32) (x2 : Int32) (x3 : Int32) (x4 : Int32) {t0 s0 : g_St} {o : Int32 × g_St}, z_M t0 s0 → m_Fix s0 → f_M_timesNamed_54 n (some 1) x1 x2 x3 x4 s0 = some o → ∃ o', f_M_timesNamed_54 n (some 1) x1 x2 x3 x4 t0 = some o' ∧ o'.1 = o.1 ∧ z_M o'.2 o.2 := by
  intro n
  induction n with
  | zero =>
    intro x1 x2 x3 x4 t0 s0 o hE hm h
    rw [f_M_timesNamed_54] at h
    cases h
  | succ n ih =>
    intro x1 x2 x3 x4 t0 s0 o hE hm h
    rw [f_M_timesNamed_54] at h
    rw [f_M_timesNamed_54]
    refine lc_gR ((hE.fx hm) _ m_k2625).1 (hm _ m_k2625).1 h (fun h => ?_)
    refine lc_aI hE (m_arr_of m_k2625) h (fun i2 h => ?_)
    refine lc_if h (fun h => ?_) (fun h => ?_)
    · exact lc_some hE h
    · refine lc_gR ((hE.fx hm) _ m_k2689).1 (hm _ m_k2689).1 h (fun h => ?_)
      refine lc_aI hE (m_arr_of m_k2689) h (fun i4 h => ?_)
      refine lc_gR ((hE.fx hm) _ m_k3905).1 (hm _ m_k3905).1 h (fun h => ?_)
      refine lc_aI hE (m_arr_of m_k3905) h (fun i6 h => ?_)
      refine lc_if h (fun h => ?_) (fun h => ?_)
      · refine lc_gR ((hE.fx hm) _ m_k3777).1 (hm _ m_k3777).1 h (fun h => ?_)
        refine lc_gR ((hE.fx hm) _ m_k4161).1 (hm _ m_k4161).1 h (fun h => ?_)
        refine lc_aI hE (m_arr_of m_k4161) h (fun i9 h => ?_)
        refine lc_aI hE (m_arr_of m_k3777) h (fun i10 h => ?_)
        refine lc_if h (fun h => ?_) (fun h => ?_)
        · exact ih _ _ _ _ hE hm h
        · exact ih _ _ _ _ hE hm h
      · exact ih _ _ _ _ hE hm h
theorem l_M_timesNamed_5 : ∀ (n : Nat) (x1 : Int32) (x2 : Int32) (x3 : Int32) (x4 : Int32) {t0 s0 : g_St} {o : Int32 × g_St}, z_M t0 s0 → m_Fix s0 → f_M_timesNamed_5 n (some 1) x1 x2 x3 x4 s0 = some o → ∃ o', f_M_timesNamed_5 n (some 1) x1 x2 x3 x4 t0 = some o' ∧ o'.1 = o.1 ∧ z_M o'.2 o.2 := by
  intro n
  induction n with
  | zero =>
    intro x1 x2 x3 x4 t0 s0 o hE hm h
    rw [f_M_timesNamed_5] at h
    cases h
  | succ n ih =>
    intro x1 x2 x3 x4 t0 s0 o hE hm h
    rw [f_M_timesNamed_5] at h
    rw [f_M_timesNamed_5]
    refine lc_gR ((hE.fx hm) _ m_k2561).1 (hm _ m_k2561).1 h (fun h => ?_)
    refine lc_aI hE (m_arr_of m_k2561) h (fun i2 h => ?_)
    refine lc_if h (fun h => ?_) (fun h => ?_)
    · exact l_M_timesNamed_54 _ _ _ _ _ hE hm h
    · refine lc_gR ((hE.fx hm) _ m_k3777).1 (hm _ m_k3777).1 h (fun h => ?_)
      refine lc_gR ((hE.fx hm) _ m_k2497).1 (hm _ m_k2497).1 h (fun h => ?_)
      refine lc_aI hE (m_arr_of m_k2497) h (fun i5 h => ?_)
      refine lc_aI hE (m_arr_of m_k3777) h (fun i6 h => ?_)
      refine lc_if h (fun h => ?_) (fun h => ?_)
      · exact ih _ _ _ _ hE hm h
      · exact ih _ _ _ _ hE hm h
theorem l_M_timesNamed (x1 : Int32) (x2 : Int32) {t0 s0 : g_St} {o : Int32 × g_St} (hE : z_M t0 s0) (hm : m_Fix s0) (h : f_M_timesNamed (some 1) x1 x2 s0 = some o) : ∃ o', f_M_timesNamed (some 1) x1 x2 t0 = some o' ∧ o'.1 = o.1 ∧ z_M o'.2 o.2 := by
  unfold f_M_timesNamed at h
  unfold f_M_timesNamed
  exact l_M_timesNamed_5 _ _ _ _ _ hE hm h
theorem l_M_checkShapes_248 {k2 k2' : Option Nat → Int32 → g_St → Option (Unit × g_St)} (hk2 : ∀ (y1 : Int32) {t s : g_St} {o : Unit × g_St}, z_M t s → m_Fix s → k2 (some 1) y1 s = some o → ∃ o', k2' (some 1) y1 t = some o' ∧ o'.1 = o.1 ∧ z_M o'.2 o.2) (x1 : Int32) (x2 : Int32) (x4 : Int32) {t0 s0 : g_St} {o : Unit × g_St} (hE : z_M t0 s0) (hm : m_Fix s0) (h : f_M_checkShapes_248 k2 (some 1) x1 x2 x4 s0 = some o) : ∃ o', f_M_checkShapes_248 k2' (some 1) x1 x2 x4 t0 = some o' ∧ o'.1 = o.1 ∧ z_M o'.2 o.2 := by
  unfold f_M_checkShapes_248 at h
  unfold f_M_checkShapes_248
  refine lc_c h (fun q hq => lc_nn (l_M_isRecursive _ hE hm (er_nn hq))) (fun i1 s2 t2 hc hE1 h => ?_)
  have hm1 := (w_M_isRecursive _ _ hm (er_nn hc)).fx hm
  refine lc_if h (fun h => ?_) (fun h => ?_)
  · refine lc_if h (fun h => ?_) (fun h => ?_)
    · exact hk2 _ hE1 hm1 h
    · refine lc_c h (fun q hq => lc_nn (l_M_note _ _ hE1 hm1 (er_nn hq))) (fun v2 s4 t4 hc hE2 h => ?_)
      have hm2 := (w_M_note _ _ _ hm1 (er_nn hc)).fx hm1
      exact hk2 _ hE2 hm2 h
  · exact hk2 _ hE1 hm1 h
theorem l_M_checkShapes_241 {k2 k2' : Option Nat → Int32 → g_St → Option (Unit × g_St)} (hk2 : ∀ (y1 : Int32) {t s : g_St} {o : Unit × g_St}, z_M t s → m_Fix s → k2 (some 1) y1 s = some o → ∃ o', k2' (some 1) y1 t = some o' ∧ o'.1 = o.1 ∧ z_M o'.2 o.2) (x1 : Int32) (x2 : Int32) (x4 : Int32) {t0 s0 : g_St} {o : Unit × g_St} (hE : z_M t0 s0) (hm : m_Fix s0) (h : f_M_checkShapes_241 k2 (some 1) x1 x2 x4 s0 = some o) : ∃ o', f_M_checkShapes_241 k2' (some 1) x1 x2 x4 t0 = some o' ∧ o'.1 = o.1 ∧ z_M o'.2 o.2 := by
  unfold f_M_checkShapes_241 at h
  unfold f_M_checkShapes_241
  refine lc_c h (fun q hq => lc_nn (l_M_note _ _ hE hm (er_nn hq))) (fun v1 s2 t2 hc hE1 h => ?_)
  have hm1 := (w_M_note _ _ _ hm (er_nn hc)).fx hm
  exact l_M_checkShapes_248 hk2 _ _ _ hE1 hm1 h
theorem l_M_checkShapes_215 {k2 k2' : Option Nat → Int32 → g_St → Option (Unit × g_St)} (hk2 : ∀ (y1 : Int32) {t s : g_St} {o : Unit × g_St}, z_M t s → m_Fix s → k2 (some 1) y1 s = some o → ∃ o', k2' (some 1) y1 t = some o' ∧ o'.1 = o.1 ∧ z_M o'.2 o.2) (x1 : Int32) (x2 : Int32) (x3 : Int32) (x4 : Int32) {t0 s0 : g_St} {o : Unit × g_St} (hE : z_M t0 s0) (hm : m_Fix s0) (h : f_M_checkShapes_215 k2 (some 1) x1 x2 x3 x4 s0 = some o) : ∃ o', f_M_checkShapes_215 k2' (some 1) x1 x2 x3 x4 t0 = some o' ∧ o'.1 = o.1 ∧ z_M o'.2 o.2 := by
  unfold f_M_checkShapes_215 at h
  unfold f_M_checkShapes_215
  refine lc_c h (fun q hq => lc_nn (l_M_isRecursive _ hE hm (er_nn hq))) (fun i1 s2 t2 hc hE1 h => ?_)
  have hm1 := (w_M_isRecursive _ _ hm (er_nn hc)).fx hm
  refine lc_if h (fun h => ?_) (fun h => ?_)
  · exact l_M_checkShapes_248 hk2 _ _ _ hE1 hm1 h
  · refine lc_if h (fun h => ?_) (fun h => ?_)
    · refine lc_gR ((hE1.fx hm1) _ m_k1921).1 (hm1 _ m_k1921).1 h (fun h => ?_)
      refine lc_aI hE1 (m_arr_of m_k1921) h (fun i4 h => ?_)
      refine lc_if h (fun h => ?_) (fun h => ?_)
      · refine lc_if h (fun h => ?_) (fun h => ?_)
        · exact l_M_checkShapes_248 hk2 _ _ _ hE1 hm1 h
        · exact l_M_checkShapes_241 hk2 _ _ _ hE1 hm1 h
      · exact l_M_checkShapes_241 hk2 _ _ _ hE1 hm1 h
    · exact l_M_checkShapes_248 hk2 _ _ _ hE1 hm1 h
theorem l_M_checkShapes_178 {k2 k2' : Option Nat → Int32 → g_St → Option (Unit × g_St)} (hk2 : ∀ (y1 : Int32) {t s : g_St} {o : Unit × g_St}, z_M t s → m_Fix s → k2 (some 1) y1 s = some o → ∃ o', k2' (some 1) y1 t = some o' ∧ o'.1 = o.1 ∧ z_M o'.2 o.2) (x1 : Int32) (x2 : Int32) (x3 : Int32) (x0s : Int32) {t0 s0 : g_St} {o : Unit × g_St} (hE : z_M t0 s0) (hm : m_Fix s0) (h : f_M_checkShapes_178 k2 (some 1) x1 x2 x3 x0s s0 = some o) : ∃ o', f_M_checkShapes_178 k2' (some 1) x1 x2 x3 x0s t0 = some o' ∧ o'.1 = o.1 ∧ z_M o'.2 o.2 := by
  unfold f_M_checkShapes_178 at h
  unfold f_M_checkShapes_178
  refine lc_c h (fun q hq => lc_nn (l_M_isRecursive _ hE hm (er_nn hq))) (fun i1 s2 t2 hc hE1 h => ?_)
  have hm1 := (w_M_isRecursive _ _ hm (er_nn hc)).fx hm
  refine lc_if h (fun h => ?_) (fun h => ?_)
  · exact l_M_checkShapes_215 hk2 _ _ _ _ hE1 hm1 h
  · refine lc_gR ((hE1.fx hm1) _ m_k1985).1 (hm1 _ m_k1985).1 h (fun h => ?_)
    refine lc_aI hE1 (m_arr_of m_k1985) h (fun i4 h => ?_)
    refine lc_c h (fun q hq => lc_nn (l_M_named _ _ hE1 hm1 (er_nn hq))) (fun i5 s6 t6 hc hE2 h => ?_)
    have hm2 := (w_M_named _ _ _ hm1 (er_nn hc)).fx hm1
    refine lc_c h (fun q hq => lc_nn (l_M_together _ hE2 hm2 (er_nn hq))) (fun i7 s8 t8 hc hE3 h => ?_)
    have hm3 := (w_M_together _ _ hm2 (er_nn hc)).fx hm2
    refine lc_if h (fun h => ?_) (fun h => ?_)
    · exact l_M_checkShapes_215 hk2 _ _ _ _ hE3 hm3 h
    · refine lc_c h (fun q hq => lc_nn (l_M_note _ _ hE3 hm3 (er_nn hq))) (fun v4 s10 t10 hc hE4 h => ?_)
      have hm4 := (w_M_note _ _ _ hm3 (er_nn hc)).fx hm3
      exact l_M_checkShapes_215 hk2 _ _ _ _ hE4 hm4 h
theorem l_M_checkShapes_154 {k2 k2' : Option Nat → Int32 → g_St → Option (Unit × g_St)} (hk2 : ∀ (y1 : Int32) {t s : g_St} {o : Unit × g_St}, z_M t s → m_Fix s → k2 (some 1) y1 s = some o → ∃ o', k2' (some 1) y1 t = some o' ∧ o'.1 = o.1 ∧ z_M o'.2 o.2) (x1 : Int32) (x2 : Int32) (x3 : Int32) {t0 s0 : g_St} {o : Unit × g_St} (hE : z_M t0 s0) (hm : m_Fix s0) (h : f_M_checkShapes_154 k2 (some 1) x1 x2 x3 s0 = some o) : ∃ o', f_M_checkShapes_154 k2' (some 1) x1 x2 x3 t0 = some o' ∧ o'.1 = o.1 ∧ z_M o'.2 o.2 := by
  unfold f_M_checkShapes_154 at h
  unfold f_M_checkShapes_154
  refine lc_gR ((hE.fx hm) _ m_k1409).1 (hm _ m_k1409).1 h (fun h => ?_)
  refine lc_aI hE (m_arr_of m_k1409) h (fun i2 h => ?_)
  refine lc_if h (fun h => ?_) (fun h => ?_)
  · exact l_M_checkShapes_178 hk2 _ _ _ _ hE hm h
  · refine lc_gR ((hE.fx hm) _ m_k1601).1 (hm _ m_k1601).1 h (fun h => ?_)
    refine lc_aI hE (m_arr_of m_k1601) h (fun i4 h => ?_)
    refine lc_if h (fun h => ?_) (fun h => ?_)
    · exact l_M_checkShapes_178 hk2 _ _ _ _ hE hm h
    · exact l_M_checkShapes_178 hk2 _ _ _ _ hE hm h
theorem l_M_checkShapes_111 {k42 k42' : Option Nat → Int32 → Int32 → Int32 → Int32 → g_St → Option (Unit × g_St)} (hk42 : ∀ (y1 : Int32) (y2 : Int32) (y3 : Int32) (y4 : Int32) {t s : g_St} {o : Unit × g_St}, z_M t s → m_Fix s → k42 (some 1) y1 y2 y3 y4 s = some o → ∃ o', k42' (some 1) y1 y2 y3 y4 t = some o' ∧ o'.1 = o.1 ∧ z_M o'.2 o.2) (x1 : Int32) (x2 : Int32) (x3 : Int32) (x4 : Int32) (x5 : Int32) {t0 s0 : g_St} {o : Unit × g_St} (hE : z_M t0 s0) (hm : m_Fix s0) (h : f_M_checkShapes_111 k42 (some 1) x1 x2 x3 x4 x5 s0 = some o) : ∃ o', f_M_checkShapes_111 k42' (some 1) x1 x2 x3 x4 x5 t0 = some o' ∧ o'.1 = o.1 ∧ z_M o'.2 o.2 := by
  unfold f_M_checkShapes_111 at h
  unfold f_M_checkShapes_111
  refine lc_c h (fun q hq => lc_nn (l_M_timesNamed _ _ hE hm (er_nn hq))) (fun i1 s2 t2 hc hE1 h => ?_)
  have hm1 := (w_M_timesNamed _ _ _ hm (er_nn hc)).fx hm
  refine lc_if h (fun h => ?_) (fun h => ?_)
  · exact hk42 _ _ _ _ hE1 hm1 h
  · exact hk42 _ _ _ _ hE1 hm1 h
theorem l_M_checkShapes_92 {k42 k42' : Option Nat → Int32 → Int32 → Int32 → Int32 → g_St → Option (Unit × g_St)} (hk42 : ∀ (y1 : Int32) (y2 : Int32) (y3 : Int32) (y4 : Int32) {t s : g_St} {o : Unit × g_St}, z_M t s → m_Fix s → k42 (some 1) y1 y2 y3 y4 s = some o → ∃ o', k42' (some 1) y1 y2 y3 y4 t = some o' ∧ o'.1 = o.1 ∧ z_M o'.2 o.2) (x1 : Int32) (x2 : Int32) (x3 : Int32) (x4 : Int32) (x5 : Int32) {t0 s0 : g_St} {o : Unit × g_St} (hE : z_M t0 s0) (hm : m_Fix s0) (h : f_M_checkShapes_92 k42 (some 1) x1 x2 x3 x4 x5 s0 = some o) : ∃ o', f_M_checkShapes_92 k42' (some 1) x1 x2 x3 x4 x5 t0 = some o' ∧ o'.1 = o.1 ∧ z_M o'.2 o.2 := by
  unfold f_M_checkShapes_92 at h
  unfold f_M_checkShapes_92
  refine lc_c h (fun q hq => lc_nn (l_M_isRecursive _ hE hm (er_nn hq))) (fun i1 s2 t2 hc hE1 h => ?_)
  have hm1 := (w_M_isRecursive _ _ hm (er_nn hc)).fx hm
  refine lc_if h (fun h => ?_) (fun h => ?_)
  · exact l_M_checkShapes_111 hk42 _ _ _ _ _ hE1 hm1 h
  · refine lc_c h (fun q hq => lc_nn (l_M_together _ hE1 hm1 (er_nn hq))) (fun i3 s4 t4 hc hE2 h => ?_)
    have hm2 := (w_M_together _ _ hm1 (er_nn hc)).fx hm1
    refine lc_c h (fun q hq => lc_nn (l_M_checkBarred _ _ hE2 hm2 (er_nn hq))) (fun v3 s6 t6 hc hE3 h => ?_)
    have hm3 := (w_M_checkBarred _ _ _ hm2 (er_nn hc)).fx hm2
    exact l_M_checkShapes_111 hk42 _ _ _ _ _ hE3 hm3 h
theorem l_M_checkShapes_42 {k2 k2' : Option Nat → Int32 → g_St → Option (Unit × g_St)} (hk2 : ∀ (y1 : Int32) {t s : g_St} {o : Unit × g_St}, z_M t s → m_Fix s → k2 (some 1) y1 s = some o → ∃ o', k2' (some 1) y1 t = some o' ∧ o'.1 = o.1 ∧ z_M o'.2 o.2) : ∀ (n : Nat) (x1 : Int32) (x2 : Int32) (x3 : Int32) (x4 : Int32) {t0 s0 : g_St} {o : Unit × g_St}, z_M t0 s0 → m_Fix s0 → f_M_checkShapes_42 k2 n (some 1) x1 x2 x3 x4 s0 = some o → ∃ o', f_M_checkShapes_42 k2' n (some 1) x1 x2 x3 x4 t0 = some o' ∧ o'.1 = o.1 ∧ z_M o'.2 o.2 := by
  intro n
  induction n with
  | zero =>
    intro x1 x2 x3 x4 t0 s0 o hE hm h
    rw [f_M_checkShapes_42] at h
    cases h
  | succ n ih =>
    intro x1 x2 x3 x4 t0 s0 o hE hm h
    rw [f_M_checkShapes_42] at h
    rw [f_M_checkShapes_42]
    refine lc_gR ((hE.fx hm) _ m_k2049).1 (hm _ m_k2049).1 h (fun h => ?_)
    refine lc_aI hE (m_arr_of m_k2049) h (fun i2 h => ?_)
    refine lc_if h (fun h => ?_) (fun h => ?_)
    · refine lc_gR ((hE.fx hm) _ m_k1857).1 (hm _ m_k1857).1 h (fun h => ?_)
      refine lc_aI hE (m_arr_of m_k1857) h (fun i4 h => ?_)
      refine lc_if h (fun h => ?_) (fun h => ?_)
      · exact l_M_checkShapes_154 hk2 _ _ _ hE hm h
      · refine lc_gR ((hE.fx hm) _ m_k1921).1 (hm _ m_k1921).1 h (fun h => ?_)
        refine lc_aI hE (m_arr_of m_k1921) h (fun i6 h => ?_)
        refine lc_if h (fun h => ?_) (fun h => ?_)
        · exact l_M_checkShapes_154 hk2 _ _ _ hE hm h
        · refine lc_c h (fun q hq => lc_nn (l_M_note _ _ hE hm (er_nn hq))) (fun v1 s8 t8 hc hE1 h => ?_)
          have hm1 := (w_M_note _ _ _ hm (er_nn hc)).fx hm
          exact l_M_checkShapes_154 hk2 _ _ _ hE1 hm1 h
    · refine lc_gR ((hE.fx hm) _ m_k1985).1 (hm _ m_k1985).1 h (fun h => ?_)
      refine lc_aI hE (m_arr_of m_k1985) h (fun i10 h => ?_)
      refine lc_gR ((hE.fx hm) _ m_k2433).1 (hm _ m_k2433).1 h (fun h => ?_)
      refine lc_aI hE (m_arr_of m_k2433) h (fun i12 h => ?_)
      refine lc_gR ((hE.fx hm) _ m_k1281).1 (hm _ m_k1281).1 h (fun h => ?_)
      refine lc_aI hE (m_arr_of m_k1281) h (fun i14 h => ?_)
      refine lc_if h (fun h => ?_) (fun h => ?_)
      · exact l_M_checkShapes_92 ih _ _ _ _ _ hE hm h
      · refine lc_gR ((hE.fx hm) _ m_k2305).1 (hm _ m_k2305).1 h (fun h => ?_)
        refine lc_aI hE (m_arr_of m_k2305) h (fun i16 h => ?_)
        refine lc_c h (fun q hq => lc_nn (l_M_note _ _ hE hm (er_nn hq))) (fun v2 s18 t18 hc hE2 h => ?_)
        have hm2 := (w_M_note _ _ _ hm (er_nn hc)).fx hm
        exact l_M_checkShapes_92 ih _ _ _ _ _ hE2 hm2 h
theorem l_M_checkShapes_2 : ∀ (n : Nat) (x1 : Int32) {t0 s0 : g_St} {o : Unit × g_St}, z_M t0 s0 → m_Fix s0 → f_M_checkShapes_2 n (some 1) x1 s0 = some o → ∃ o', f_M_checkShapes_2 n (some 1) x1 t0 = some o' ∧ o'.1 = o.1 ∧ z_M o'.2 o.2 := by
  intro n
  induction n with
  | zero =>
    intro x1 t0 s0 o hE hm h
    rw [f_M_checkShapes_2] at h
    cases h
  | succ n ih =>
    intro x1 t0 s0 o hE hm h
    rw [f_M_checkShapes_2] at h
    rw [f_M_checkShapes_2]
    refine lc_gI hE (by decide) h (fun i1 h => ?_)
    refine lc_if h (fun h => ?_) (fun h => ?_)
    · exact lc_some hE h
    · refine lc_gR ((hE.fx hm) _ m_k705).1 (hm _ m_k705).1 h (fun h => ?_)
      refine lc_gR ((hE.fx hm) _ m_k1217).1 (hm _ m_k1217).1 h (fun h => ?_)
      refine lc_aI hE (m_arr_of m_k1217) h (fun i4 h => ?_)
      refine lc_aI hE (m_arr_of m_k705) h (fun i5 h => ?_)
      refine lc_c h (fun q hq => lc_nn (l_M_together _ hE hm (er_nn hq))) (fun i6 s7 t7 hc hE1 h => ?_)
      have hm1 := (w_M_together _ _ hm (er_nn hc)).fx hm
      refine lc_if h (fun h => ?_) (fun h => ?_)
      · exact l_M_checkShapes_42 ih _ _ _ _ _ hE1 hm1 h
      · exact l_M_checkShapes_42 ih _ _ _ _ _ hE1 hm1 h
theorem l_M_checkShapes  {t0 s0 : g_St} {o : Unit × g_St} (hE : z_M t0 s0) (hm : m_Fix s0) (h : f_M_checkShapes (some 1) s0 = some o) : ∃ o', f_M_checkShapes (some 1) t0 = some o' ∧ o'.1 = o.1 ∧ z_M o'.2 o.2 := by
  unfold f_M_checkShapes at h
  unfold f_M_checkShapes
  exact l_M_checkShapes_2 _ _ hE hm h
theorem l_M_prepare_208 (x1s : Int32) {t0 s0 : g_St} {o : Int32 × g_St} (hE : z_M t0 s0) (hm : m_Fix s0) (h : f_M_prepare_208 (some 1) (some 1) x1s s0 = some o) : ∃ o', f_M_prepare_208 (some 1) (some 1) x1s t0 = some o' ∧ o'.1 = o.1 ∧ z_M o'.2 o.2 := by
  unfold f_M_prepare_208 at h
  unfold f_M_prepare_208
  refine lc_pZ h (fun h => ?_)
  have hE1 := hE.pI 1025 x1s
  have hm1 := m_setI 1025 x1s hm
  refine lc_gI hE1 (by decide) h (fun i2 h => ?_)
  refine lc_if h (fun h => ?_) (fun h => ?_)
  · exact lc_some hE1 h
  · refine lc_gI hE1 (by decide) h (fun i3 h => ?_)
    exact lc_some hE1 h
theorem l_M_prepare_192 (x1s : Int32) {t0 s0 : g_St} {o : Int32 × g_St} (hE : z_M t0 s0) (hm : m_Fix s0) (h : f_M_prepare_192 (some 1) (some 1) x1s s0 = some o) : ∃ o', f_M_prepare_192 (some 1) (some 1) x1s t0 = some o' ∧ o'.1 = o.1 ∧ z_M o'.2 o.2 := by
  unfold f_M_prepare_192 at h
  unfold f_M_prepare_192
  refine lc_pI h (fun h => ?_)
  have hE1 := hE.pI 1 x1s
  have hm1 := m_setI 1 x1s hm
  refine lc_gI hE1 (by decide) h (fun i2 h => ?_)
  refine lc_if h (fun h => ?_) (fun h => ?_)
  · exact l_M_prepare_208 _ hE1 hm1 h
  · exact l_M_prepare_208 _ hE1 hm1 h
theorem l_M_prepare_176 (x1s : Int32) {t0 s0 : g_St} {o : Int32 × g_St} (hE : z_M t0 s0) (hm : m_Fix s0) (h : f_M_prepare_176 (some 1) (some 1) x1s s0 = some o) : ∃ o', f_M_prepare_176 (some 1) (some 1) x1s t0 = some o' ∧ o'.1 = o.1 ∧ z_M o'.2 o.2 := by
  unfold f_M_prepare_176 at h
  unfold f_M_prepare_176
  refine lc_pI h (fun h => ?_)
  have hE1 := hE.pI 961 x1s
  have hm1 := m_setI 961 x1s hm
  refine lc_gI hE1 (by decide) h (fun i2 h => ?_)
  refine lc_if h (fun h => ?_) (fun h => ?_)
  · exact l_M_prepare_192 _ hE1 hm1 h
  · exact l_M_prepare_192 _ hE1 hm1 h
theorem l_M_prepare_152  {t0 s0 : g_St} {o : Int32 × g_St} (hE : z_M t0 s0) (hm : m_Fix s0) (h : f_M_prepare_152 (some 1) s0 = some o) : ∃ o', f_M_prepare_152 (some 1) t0 = some o' ∧ o'.1 = o.1 ∧ z_M o'.2 o.2 := by
  unfold f_M_prepare_152 at h
  unfold f_M_prepare_152
  refine lc_gI hE (by decide) h (fun i1 h => ?_)
  refine lc_if h (fun h => ?_) (fun h => ?_)
  · exact l_M_prepare_176 _ hE hm h
  · refine lc_gI hE (by decide) h (fun i2 h => ?_)
    refine lc_gI hE (by decide) h (fun i3 h => ?_)
    exact l_M_prepare_176 _ hE hm h
theorem l_M_prepare_137  {t0 s0 : g_St} {o : Int32 × g_St} (hE : z_M t0 s0) (hm : m_Fix s0) (h : f_M_prepare_137 (some 1) s0 = some o) : ∃ o', f_M_prepare_137 (some 1) t0 = some o' ∧ o'.1 = o.1 ∧ z_M o'.2 o.2 := by
  unfold f_M_prepare_137 at h
  unfold f_M_prepare_137
  refine lc_gI hE (by decide) h (fun i1 h => ?_)
  refine lc_if h (fun h => ?_) (fun h => ?_)
  · refine lc_c h (fun q hq => lc_nn (l_M_findComponents hE hm (er_nn hq))) (fun v1 s3 t3 hc hE1 h => ?_)
    have hm1 := (w_M_findComponents _ hm (er_nn hc)).fx hm
    refine lc_c h (fun q hq => lc_nn (l_M_checkShapes hE1 hm1 (er_nn hq))) (fun v2 s5 t5 hc hE2 h => ?_)
    have hm2 := (w_M_checkShapes _ hm1 (er_nn hc)).fx hm1
    exact l_M_prepare_152 hE2 hm2 h
  · exact l_M_prepare_152 hE hm h
theorem l_M_prepare_108 : ∀ (n : Nat) (x1 : Int32) {t0 s0 : g_St} {o : Int32 × g_St}, z_M t0 s0 → m_Fix s0 → f_M_prepare_108 n (some 1) x1 s0 = some o → ∃ o', f_M_prepare_108 n (some 1) x1 t0 = some o' ∧ o'.1 = o.1 ∧ z_M o'.2 o.2 := by
  intro n
  induction n with
  | zero =>
    intro x1 t0 s0 o hE hm h
    rw [f_M_prepare_108] at h
    cases h
  | succ n ih =>
    intro x1 t0 s0 o hE hm h
    rw [f_M_prepare_108] at h
    rw [f_M_prepare_108]
    refine lc_gI hE (by decide) h (fun i1 h => ?_)
    refine lc_if h (fun h => ?_) (fun h => ?_)
    · refine lc_gI hE (by decide) h (fun i2 h => ?_)
      refine lc_c h (fun q hq => lc_nn (l_M_resolveOrder _ hE hm (er_nn hq))) (fun v1 s4 t4 hc hE1 h => ?_)
      have hm1 := (w_M_resolveOrder _ _ hm (er_nn hc)).fx hm
      exact l_M_prepare_137 hE1 hm1 h
    · refine lc_c h (fun q hq => lc_nn (l_M_resolveSelection _ hE hm (er_nn hq))) (fun v2 s6 t6 hc hE2 h => ?_)
      have hm2 := (w_M_resolveSelection _ _ hm (er_nn hc)).fx hm
      exact ih _ hE2 hm2 h
theorem l_M_prepare_87 : ∀ (n : Nat) (x1 : Int32) {t0 s0 : g_St} {o : Int32 × g_St}, z_M t0 s0 → m_Fix s0 → f_M_prepare_87 n (some 1) x1 s0 = some o → ∃ o', f_M_prepare_87 n (some 1) x1 t0 = some o' ∧ o'.1 = o.1 ∧ z_M o'.2 o.2 := by
  intro n
  induction n with
  | zero =>
    intro x1 t0 s0 o hE hm h
    rw [f_M_prepare_87] at h
    cases h
  | succ n ih =>
    intro x1 t0 s0 o hE hm h
    rw [f_M_prepare_87] at h
    rw [f_M_prepare_87]
    refine lc_gI hE (by decide) h (fun i1 h => ?_)
    refine lc_if h (fun h => ?_) (fun h => ?_)
    · exact l_M_prepare_108 _ _ hE hm h
    · refine lc_c h (fun q hq => lc_nn (l_M_resolvePart _ hE hm (er_nn hq))) (fun v1 s3 t3 hc hE1 h => ?_)
      have hm1 := (w_M_resolvePart _ _ hm (er_nn hc)).fx hm
      exact ih _ hE1 hm1 h
theorem l_M_prepare  {t0 s0 : g_St} {o : Int32 × g_St} (hE : z_M t0 s0) (hm : m_Fix s0) (h : f_M_prepare (some 1) s0 = some o) : ∃ o', f_M_prepare (some 1) t0 = some o' ∧ o'.1 = o.1 ∧ z_M o'.2 o.2 := by
  unfold f_M_prepare at h
  unfold f_M_prepare
  refine lc_pI h (fun h => ?_)
  have hE1 := hE.pI 833 0
  have hm1 := m_setI 833 0 hm
  refine lc_pI h (fun h => ?_)
  have hE2 := hE1.pI 897 0
  have hm2 := m_setI 897 0 hm1
  refine lc_pZ h (fun h => ?_)
  have hE3 := hE2.pI 1025 0
  have hm3 := m_setI 1025 0 hm2
  refine lc_pZ h (fun h => ?_)
  have hE4 := hE3.pI 1089 0
  have hm4 := m_setI 1089 0 hm3
  refine lc_pI h (fun h => ?_)
  have hE5 := hE4.pI 1153 0
  have hm5 := m_setI 1153 0 hm4
  refine lc_pI h (fun h => ?_)
  have hE6 := hE5.pI 2177 0
  have hm6 := m_setI 2177 0 hm5
  refine lc_pI h (fun h => ?_)
  have hE7 := hE6.pI 2817 0
  have hm7 := m_setI 2817 0 hm6
  refine lc_pI h (fun h => ?_)
  have hE8 := hE7.pI 3009 0
  have hm8 := m_setI 3009 0 hm7
  refine lc_pI h (fun h => ?_)
  have hE9 := hE8.pI 3073 0
  have hm9 := m_setI 3073 0 hm8
  refine lc_pI h (fun h => ?_)
  have hE10 := hE9.pI 3585 0
  have hm10 := m_setI 3585 0 hm9
  refine lc_pI h (fun h => ?_)
  have hE11 := hE10.pI 3841 0
  have hm11 := m_setI 3841 0 hm10
  refine lc_pI h (fun h => ?_)
  have hE12 := hE11.pI 4353 0
  have hm12 := m_setI 4353 0 hm11
  refine lc_pI h (fun h => ?_)
  have hE13 := hE12.pI 577 0
  have hm13 := m_setI 577 0 hm12
  refine lc_c h (fun q hq => lc_nn (l_M_scan hE13 hm13 (er_nn hq))) (fun v14 s15 t15 hc hE14 h => ?_)
  have hm14 := (w_M_scan _ hm13 (er_nn hc)).fx hm13
  refine lc_pI h (fun h => ?_)
  have hE15 := hE14.pI 321 0
  have hm15 := m_setI 321 0 hm14
  refine lc_c h (fun q hq => lc_nn (l_M_readQuery hE15 hm15 (er_nn hq))) (fun v16 s18 t18 hc hE16 h => ?_)
  have hm16 := (w_M_readQuery _ hm15 (er_nn hc)).fx hm15
  refine lc_c h (fun q hq => lc_nn (l_M_bad hE16 hm16 (er_nn hq))) (fun i19 s20 t20 hc hE17 h => ?_)
  have hm17 := (w_M_bad _ hm16 (er_nn hc)).fx hm16
  refine lc_if h (fun h => ?_) (fun h => ?_)
  · exact l_M_prepare_87 _ _ hE17 hm17 h
  · exact l_M_prepare_137 hE17 hm17 h
theorem l_M_fault  {t0 s0 : g_St} {o : Int32 × g_St} (hE : z_M t0 s0) (hm : m_Fix s0) (h : f_M_fault (some 1) s0 = some o) : ∃ o', f_M_fault (some 1) t0 = some o' ∧ o'.1 = o.1 ∧ z_M o'.2 o.2 := by
  unfold f_M_fault at h
  unfold f_M_fault
  refine lc_pI h (fun h => ?_)
  have hE1 := hE.pI 1 0
  have hm1 := m_setI 1 0 hm
  refine lc_gI hE1 (by decide) h (fun i2 h => ?_)
  exact lc_some hE1 h
theorem l_M_part_38 (x1 : Int32) (x2 : Int32) (x1s : Int32) {t0 s0 : g_St} {o : Int32 × g_St} (hE : z_M t0 s0) (hm : m_Fix s0) (h : f_M_part_38 (some 1) x1 x2 (some 1) x1s s0 = some o) : ∃ o', f_M_part_38 (some 1) x1 x2 (some 1) x1s t0 = some o' ∧ o'.1 = o.1 ∧ z_M o'.2 o.2 := by
  unfold f_M_part_38 at h
  unfold f_M_part_38
  refine lc_pI h (fun h => ?_)
  have hE1 := hE.pI 1 x1s
  have hm1 := m_setI 1 x1s hm
  refine lc_gI hE1 (by decide) h (fun i2 h => ?_)
  refine lc_if h (fun h => ?_) (fun h => ?_)
  · refine lc_if h (fun h => ?_) (fun h => ?_)
    · refine lc_gR ((hE1.fx hm1) _ m_k4801).1 (hm1 _ m_k4801).1 h (fun h => ?_)
      refine lc_aI hE1 (m_arr_of m_k4801) h (fun i10 h => ?_)
      exact lc_some hE1 h
    · refine lc_if h (fun h => ?_) (fun h => ?_)
      · refine lc_c h (fun q hq => lc_nn (l_M_isRecursive _ hE1 hm1 (er_nn hq))) (fun i7 s8 t8 hc hE2 h => ?_)
        have hm2 := (w_M_isRecursive _ _ hm1 (er_nn hc)).fx hm1
        refine lc_if h (fun h => ?_) (fun h => ?_)
        · exact lc_some hE2 h
        · exact lc_some hE2 h
      · refine lc_gR ((hE1.fx hm1) _ m_k1281).1 (hm1 _ m_k1281).1 h (fun h => ?_)
        refine lc_aI hE1 (m_arr_of m_k1281) h (fun i4 h => ?_)
        refine lc_gR ((hE1.fx hm1) _ m_k1601).1 (hm1 _ m_k1601).1 h (fun h => ?_)
        refine lc_aI hE1 (m_arr_of m_k1601) h (fun i6 h => ?_)
        refine lc_if h (fun h => ?_) (fun h => ?_)
        · exact lc_some hE1 h
        · exact lc_some hE1 h
  · exact lc_some hE1 h
theorem l_M_part (x1 : Int32) (x2 : Int32) {t0 s0 : g_St} {o : Int32 × g_St} (hE : z_M t0 s0) (hm : m_Fix s0) (h : f_M_part (some 1) x1 x2 s0 = some o) : ∃ o', f_M_part (some 1) x1 x2 t0 = some o' ∧ o'.1 = o.1 ∧ z_M o'.2 o.2 := by
  unfold f_M_part at h
  unfold f_M_part
  refine lc_gI hE (by decide) h (fun i1 h => ?_)
  refine lc_if h (fun h => ?_) (fun h => ?_)
  · exact l_M_part_38 _ _ _ hE hm h
  · refine lc_if h (fun h => ?_) (fun h => ?_)
    · exact l_M_part_38 _ _ _ hE hm h
    · refine lc_gI hE (by decide) h (fun i2 h => ?_)
      refine lc_if h (fun h => ?_) (fun h => ?_)
      · refine lc_if h (fun h => ?_) (fun h => ?_)
        · exact l_M_part_38 _ _ _ hE hm h
        · refine lc_if h (fun h => ?_) (fun h => ?_)
          · exact l_M_part_38 _ _ _ hE hm h
          · exact l_M_part_38 _ _ _ hE hm h
      · exact l_M_part_38 _ _ _ hE hm h
theorem l_M_cellOf (x1 : Int32) (x2 : Int32) {t0 s0 : g_St} {o : Int64 × g_St} (hE : z_M t0 s0) (hm : m_Fix s0) (h : f_M_cellOf (some 1) x1 x2 s0 = some o) : ∃ o', f_M_cellOf (some 1) x1 x2 t0 = some o' ∧ o'.1 = o.1 ∧ z_M o'.2 o.2 := by
  unfold f_M_cellOf at h
  unfold f_M_cellOf
  refine lc_if h (fun h => ?_) (fun h => ?_)
  · refine lc_gR ((hE.fx hm) _ m_k5057).1 (hm _ m_k5057).1 h (fun h => ?_)
    refine lc_aL hE (m_arr_of m_k5057) h (fun j2 h => ?_)
    exact lc_some hE h
  · refine lc_gR ((hE.fx hm) _ m_k257).1 (hm _ m_k257).1 h (fun h => ?_)
    refine lc_aL hE (m_arr_of m_k257) h (fun j4 h => ?_)
    exact lc_some hE h
theorem l_M_valueOf_90 {k5 k5' : Option Nat → Int32 → Int64 → Int32 → g_St → Option (Int64 × g_St)} (hk5 : ∀ (y1 : Int32) (y2 : Int64) (y3 : Int32) {t s : g_St} {o : Int64 × g_St}, z_M t s → m_Fix s → k5 (some 1) y1 y2 y3 s = some o → ∃ o', k5' (some 1) y1 y2 y3 t = some o' ∧ o'.1 = o.1 ∧ z_M o'.2 o.2) (x1 : Int32) (y2 : Int64) (x4 : Int32) (x5 : Int32) (y0s : Int64) {t0 s0 : g_St} {o : Int64 × g_St} (hE : z_M t0 s0) (hm : m_Fix s0) (h : f_M_valueOf_90 k5 (some 1) x1 y2 x4 x5 y0s s0 = some o) : ∃ o', f_M_valueOf_90 k5' (some 1) x1 y2 x4 x5 y0s t0 = some o' ∧ o'.1 = o.1 ∧ z_M o'.2 o.2 := by
  unfold f_M_valueOf_90 at h
  unfold f_M_valueOf_90
  refine lc_if h (fun h => ?_) (fun h => ?_)
  · exact lc_some hE h
  · refine lc_gR ((hE.fx hm) _ m_k3329).1 (hm _ m_k3329).1 h (fun h => ?_)
    refine lc_aI hE (m_arr_of m_k3329) h (fun i2 h => ?_)
    exact hk5 _ _ _ hE hm h
theorem l_M_valueOf_5 : ∀ (n : Nat) (x1 : Int32) (y2 : Int64) (x4 : Int32) {t0 s0 : g_St} {o : Int64 × g_St}, z_M t0 s0 → m_Fix s0 → f_M_valueOf_5 n (some 1) x1 y2 x4 s0 = some o → ∃ o', f_M_valueOf_5 n (some 1) x1 y2 x4 t0 = some o' ∧ o'.1 = o.1 ∧ z_M o'.2 o.2 := by
  intro n
  induction n with
  | zero =>
    intro x1 y2 x4 t0 s0 o hE hm h
    rw [f_M_valueOf_5] at h
    cases h
  | succ n ih =>
    intro x1 y2 x4 t0 s0 o hE hm h
    rw [f_M_valueOf_5] at h
    rw [f_M_valueOf_5]
    refine lc_gR ((hE.fx hm) _ m_k3201).1 (hm _ m_k3201).1 h (fun h => ?_)
    refine lc_aI hE (m_arr_of m_k3201) h (fun i2 h => ?_)
    refine lc_if h (fun h => ?_) (fun h => ?_)
    · exact lc_some hE h
    · refine lc_gR ((hE.fx hm) _ m_k3137).1 (hm _ m_k3137).1 h (fun h => ?_)
      refine lc_aI hE (m_arr_of m_k3137) h (fun i4 h => ?_)
      refine lc_gR ((hE.fx hm) _ m_k3265).1 (hm _ m_k3265).1 h (fun h => ?_)
      refine lc_aI hE (m_arr_of m_k3265) h (fun i6 h => ?_)
      refine lc_if h (fun h => ?_) (fun h => ?_)
      · exact lc_some hE h
      · refine lc_gR ((hE.fx hm) _ m_k3265).1 (hm _ m_k3265).1 h (fun h => ?_)
        refine lc_aI hE (m_arr_of m_k3265) h (fun i8 h => ?_)
        refine lc_if h (fun h => ?_) (fun h => ?_)
        · refine lc_gR ((hE.fx hm) _ m_k769).1 (hm _ m_k769).1 h (fun h => ?_)
          refine lc_gR ((hE.fx hm) _ m_k3393).1 (hm _ m_k3393).1 h (fun h => ?_)
          refine lc_aI hE (m_arr_of m_k3393) h (fun i19 h => ?_)
          refine lc_aL hE (m_arr_of m_k769) h (fun j20 h => ?_)
          exact l_M_valueOf_90 ih _ _ _ _ _ hE hm h
        · refine lc_gR ((hE.fx hm) _ m_k6273).1 (hm _ m_k6273).1 h (fun h => ?_)
          refine lc_gR ((hE.fx hm) _ m_k3457).1 (hm _ m_k3457).1 h (fun h => ?_)
          refine lc_aI hE (m_arr_of m_k3457) h (fun i11 h => ?_)
          refine lc_aI hE (m_arr_of m_k6273) h (fun i12 h => ?_)
          refine lc_gR ((hE.fx hm) _ m_k3521).1 (hm _ m_k3521).1 h (fun h => ?_)
          refine lc_aI hE (m_arr_of m_k3521) h (fun i14 h => ?_)
          refine lc_c h (fun q hq => lc_nn (l_M_cellOf _ _ hE hm (er_nn hq))) (fun j15 s16 t16 hc hE1 h => ?_)
          have hm1 := (w_M_cellOf _ _ _ hm (er_nn hc)).fx hm
          exact l_M_valueOf_90 ih _ _ _ _ _ hE1 hm1 h
theorem l_M_valueOf (x1 : Int32) {t0 s0 : g_St} {o : Int64 × g_St} (hE : z_M t0 s0) (hm : m_Fix s0) (h : f_M_valueOf (some 1) x1 s0 = some o) : ∃ o', f_M_valueOf (some 1) x1 t0 = some o' ∧ o'.1 = o.1 ∧ z_M o'.2 o.2 := by
  unfold f_M_valueOf at h
  unfold f_M_valueOf
  exact l_M_valueOf_5 _ _ _ _ hE hm h
theorem l_M_compares (x1 : Int32) {t0 s0 : g_St} {o : Int32 × g_St} (hE : z_M t0 s0) (hm : m_Fix s0) (h : f_M_compares (some 1) x1 s0 = some o) : ∃ o', f_M_compares (some 1) x1 t0 = some o' ∧ o'.1 = o.1 ∧ z_M o'.2 o.2 := by
  unfold f_M_compares at h
  unfold f_M_compares
  refine lc_gR ((hE.fx hm) _ m_k4033).1 (hm _ m_k4033).1 h (fun h => ?_)
  refine lc_aI hE (m_arr_of m_k4033) h (fun i2 h => ?_)
  refine lc_c h (fun q hq => lc_nn (l_M_valueOf _ hE hm (er_nn hq))) (fun j3 s4 t4 hc hE1 h => ?_)
  have hm1 := (w_M_valueOf _ _ hm (er_nn hc)).fx hm
  refine lc_gR ((hE1.fx hm1) _ m_k3905).1 (hm1 _ m_k3905).1 h (fun h => ?_)
  refine lc_aI hE1 (m_arr_of m_k3905) h (fun i6 h => ?_)
  refine lc_if h (fun h => ?_) (fun h => ?_)
  · refine lc_if h (fun h => ?_) (fun h => ?_)
    · exact lc_rZ h (fun h => lc_some hE1 h)
    · exact lc_rZ h (fun h => lc_some hE1 h)
  · refine lc_gR ((hE1.fx hm1) _ m_k4097).1 (hm1 _ m_k4097).1 h (fun h => ?_)
    refine lc_aI hE1 (m_arr_of m_k4097) h (fun i8 h => ?_)
    refine lc_c h (fun q hq => lc_nn (l_M_valueOf _ hE1 hm1 (er_nn hq))) (fun j9 s10 t10 hc hE2 h => ?_)
    have hm2 := (w_M_valueOf _ _ hm1 (er_nn hc)).fx hm1
    refine lc_if h (fun h => ?_) (fun h => ?_)
    · exact lc_rZ h (fun h => lc_some hE2 h)
    · refine lc_if h (fun h => ?_) (fun h => ?_)
      · exact lc_rZ h (fun h => lc_some hE2 h)
      · refine lc_gR ((hE2.fx hm2) _ m_k3969).1 (hm2 _ m_k3969).1 h (fun h => ?_)
        refine lc_aI hE2 (m_arr_of m_k3969) h (fun i12 h => ?_)
        refine lc_if h (fun h => ?_) (fun h => ?_)
        · refine lc_if h (fun h => ?_) (fun h => ?_)
          · exact lc_rZ h (fun h => lc_some hE2 h)
          · exact lc_rZ h (fun h => lc_some hE2 h)
        · refine lc_gR ((hE2.fx hm2) _ m_k3969).1 (hm2 _ m_k3969).1 h (fun h => ?_)
          refine lc_aI hE2 (m_arr_of m_k3969) h (fun i14 h => ?_)
          refine lc_if h (fun h => ?_) (fun h => ?_)
          · refine lc_if h (fun h => ?_) (fun h => ?_)
            · exact lc_rZ h (fun h => lc_some hE2 h)
            · exact lc_rZ h (fun h => lc_some hE2 h)
          · refine lc_gR ((hE2.fx hm2) _ m_k3969).1 (hm2 _ m_k3969).1 h (fun h => ?_)
            refine lc_aI hE2 (m_arr_of m_k3969) h (fun i16 h => ?_)
            refine lc_if h (fun h => ?_) (fun h => ?_)
            · refine lc_if h (fun h => ?_) (fun h => ?_)
              · exact lc_rZ h (fun h => lc_some hE2 h)
              · exact lc_rZ h (fun h => lc_some hE2 h)
            · refine lc_if h (fun h => ?_) (fun h => ?_)
              · exact lc_rZ h (fun h => lc_some hE2 h)
              · exact lc_rZ h (fun h => lc_some hE2 h)
theorem l_M_hasNone_136 {k35 k35' : Option Nat → Int32 → Int32 → Int32 → Int32 → g_St → Option (Int32 × g_St)} (hk35 : ∀ (y1 : Int32) (y2 : Int32) (y3 : Int32) (y4 : Int32) {t s : g_St} {o : Int32 × g_St}, z_M t s → m_Fix s → k35 (some 1) y1 y2 y3 y4 s = some o → ∃ o', k35' (some 1) y1 y2 y3 y4 t = some o' ∧ o'.1 = o.1 ∧ z_M o'.2 o.2) (x1 : Int32) (x2 : Int32) (x3 : Int32) (x4 : Int32) (x5 : Int32) {t0 s0 : g_St} {o : Int32 × g_St} (hE : z_M t0 s0) (hm : m_Fix s0) (h : f_M_hasNone_136 k35 (some 1) x1 x2 x3 x4 x5 s0 = some o) : ∃ o', f_M_hasNone_136 k35' (some 1) x1 x2 x3 x4 x5 t0 = some o' ∧ o'.1 = o.1 ∧ z_M o'.2 o.2 := by
  unfold f_M_hasNone_136 at h
  unfold f_M_hasNone_136
  refine lc_if h (fun h => ?_) (fun h => ?_)
  · exact hk35 _ _ _ _ hE hm h
  · exact lc_rZ h (fun h => lc_some hE h)
theorem l_M_hasNone_97 {k35 k35' : Option Nat → Int32 → Int32 → Int32 → Int32 → g_St → Option (Int32 × g_St)} (hk35 : ∀ (y1 : Int32) (y2 : Int32) (y3 : Int32) (y4 : Int32) {t s : g_St} {o : Int32 × g_St}, z_M t s → m_Fix s → k35 (some 1) y1 y2 y3 y4 s = some o → ∃ o', k35' (some 1) y1 y2 y3 y4 t = some o' ∧ o'.1 = o.1 ∧ z_M o'.2 o.2) : ∀ (n : Nat) (x1 : Int32) (x2 : Int32) (x3 : Int32) (x4 : Int32) (x5 : Int32) (x6 : Int32) {t0 s0 : g_St} {o : Int32 × g_St}, z_M t0 s0 → m_Fix s0 → f_M_hasNone_97 k35 n (some 1) x1 x2 x3 x4 x5 x6 s0 = some o → ∃ o', f_M_hasNone_97 k35' n (some 1) x1 x2 x3 x4 x5 x6 t0 = some o' ∧ o'.1 = o.1 ∧ z_M o'.2 o.2 := by
  intro n
  induction n with
  | zero =>
    intro x1 x2 x3 x4 x5 x6 t0 s0 o hE hm h
    rw [f_M_hasNone_97] at h
    cases h
  | succ n ih =>
    intro x1 x2 x3 x4 x5 x6 t0 s0 o hE hm h
    rw [f_M_hasNone_97] at h
    rw [f_M_hasNone_97]
    refine lc_gR ((hE.fx hm) _ m_k4225).1 (hm _ m_k4225).1 h (fun h => ?_)
    refine lc_aI hE (m_arr_of m_k4225) h (fun i2 h => ?_)
    refine lc_if h (fun h => ?_) (fun h => ?_)
    · exact l_M_hasNone_136 hk35 _ _ _ _ _ hE hm h
    · refine lc_if h (fun h => ?_) (fun h => ?_)
      · exact l_M_hasNone_136 hk35 _ _ _ _ _ hE hm h
      · refine lc_gR ((hE.fx hm) _ m_k4289).1 (hm _ m_k4289).1 h (fun h => ?_)
        refine lc_aI hE (m_arr_of m_k4289) h (fun i4 h => ?_)
        refine lc_c h (fun q hq => lc_nn (l_M_compares _ hE hm (er_nn hq))) (fun i5 s6 t6 hc hE1 h => ?_)
        have hm1 := (w_M_compares _ _ hm (er_nn hc)).fx hm
        exact ih _ _ _ _ _ _ hE1 hm1 h
theorem l_M_hasNone_64 {k35 k35' : Option Nat → Int32 → Int32 → Int32 → Int32 → g_St → Option (Int32 × g_St)} (hk35 : ∀ (y1 : Int32) (y2 : Int32) (y3 : Int32) (y4 : Int32) {t s : g_St} {o : Int32 × g_St}, z_M t s → m_Fix s → k35 (some 1) y1 y2 y3 y4 s = some o → ∃ o', k35' (some 1) y1 y2 y3 y4 t = some o' ∧ o'.1 = o.1 ∧ z_M o'.2 o.2) (x1 : Int32) (x2 : Int32) (x3 : Int32) (x4 : Int32) {t0 s0 : g_St} {o : Int32 × g_St} (hE : z_M t0 s0) (hm : m_Fix s0) (h : f_M_hasNone_64 k35 (some 1) x1 x2 x3 x4 s0 = some o) : ∃ o', f_M_hasNone_64 k35' (some 1) x1 x2 x3 x4 t0 = some o' ∧ o'.1 = o.1 ∧ z_M o'.2 o.2 := by
  unfold f_M_hasNone_64 at h
  unfold f_M_hasNone_64
  refine lc_gR ((hE.fx hm) _ m_k6273).1 (hm _ m_k6273).1 h (fun h => ?_)
  refine lc_if h (fun h => ?_) (fun h => ?_)
  · refine lc_sI hE (m_arr_of m_k6273) h (fun j1 h => ?_)
    have hE1 := hE.sI 4756 j1 (100 + x4)
    have hm1 := m_setAI 4756 j1 (100 + x4) hm
    exact l_M_hasNone_97 hk35 _ _ _ _ _ _ _ hE1 hm1 h
  · refine lc_sI hE (m_arr_of m_k6273) h (fun j2 h => ?_)
    have hE2 := hE.sI 4756 j2 ((16 * x2) + x4)
    have hm2 := m_setAI 4756 j2 ((16 * x2) + x4) hm
    exact l_M_hasNone_97 hk35 _ _ _ _ _ _ _ hE2 hm2 h
theorem l_M_hasNone_35 : ∀ (n : Nat) (x1 : Int32) (x2 : Int32) (x3 : Int32) (x4 : Int32) {t0 s0 : g_St} {o : Int32 × g_St}, z_M t0 s0 → m_Fix s0 → f_M_hasNone_35 n (some 1) x1 x2 x3 x4 s0 = some o → ∃ o', f_M_hasNone_35 n (some 1) x1 x2 x3 x4 t0 = some o' ∧ o'.1 = o.1 ∧ z_M o'.2 o.2 := by
  intro n
  induction n with
  | zero =>
    intro x1 x2 x3 x4 t0 s0 o hE hm h
    rw [f_M_hasNone_35] at h
    cases h
  | succ n ih =>
    intro x1 x2 x3 x4 t0 s0 o hE hm h
    rw [f_M_hasNone_35] at h
    rw [f_M_hasNone_35]
    refine lc_if h (fun h => ?_) (fun h => ?_)
    · exact lc_rZ h (fun h => lc_some hE h)
    · refine lc_if h (fun h => ?_) (fun h => ?_)
      · exact l_M_hasNone_64 ih _ _ _ _ hE hm h
      · refine lc_gR ((hE.fx hm) _ m_k4993).1 (hm _ m_k4993).1 h (fun h => ?_)
        refine lc_aI hE (m_arr_of m_k4993) h (fun i2 h => ?_)
        refine lc_if h (fun h => ?_) (fun h => ?_)
        · exact l_M_hasNone_64 ih _ _ _ _ hE hm h
        · exact ih _ _ _ _ hE hm h
theorem l_M_hasNone (x1 : Int32) {t0 s0 : g_St} {o : Int32 × g_St} (hE : z_M t0 s0) (hm : m_Fix s0) (h : f_M_hasNone (some 1) x1 s0 = some o) : ∃ o', f_M_hasNone (some 1) x1 t0 = some o' ∧ o'.1 = o.1 ∧ z_M o'.2 o.2 := by
  unfold f_M_hasNone at h
  unfold f_M_hasNone
  refine lc_gR ((hE.fx hm) _ m_k3777).1 (hm _ m_k3777).1 h (fun h => ?_)
  refine lc_gR ((hE.fx hm) _ m_k4161).1 (hm _ m_k4161).1 h (fun h => ?_)
  refine lc_aI hE (m_arr_of m_k4161) h (fun i3 h => ?_)
  refine lc_aI hE (m_arr_of m_k3777) h (fun i4 h => ?_)
  refine lc_if h (fun h => ?_) (fun h => ?_)
  · refine lc_gI hE (by decide) h (fun i5 h => ?_)
    exact l_M_hasNone_35 _ _ _ _ _ hE hm h
  · refine lc_gR ((hE.fx hm) _ m_k193).1 (hm _ m_k193).1 h (fun h => ?_)
    refine lc_aI hE (m_arr_of m_k193) h (fun i7 h => ?_)
    exact l_M_hasNone_35 _ _ _ _ _ hE hm h
theorem l_M_passes_4 : ∀ (n : Nat) (x1 : Int32) (x2 : Int32) (x3 : Int32) {t0 s0 : g_St} {o : Int32 × g_St}, z_M t0 s0 → m_Fix s0 → f_M_passes_4 n (some 1) x1 x2 x3 s0 = some o → ∃ o', f_M_passes_4 n (some 1) x1 x2 x3 t0 = some o' ∧ o'.1 = o.1 ∧ z_M o'.2 o.2 := by
  intro n
  induction n with
  | zero =>
    intro x1 x2 x3 t0 s0 o hE hm h
    rw [f_M_passes_4] at h
    cases h
  | succ n ih =>
    intro x1 x2 x3 t0 s0 o hE hm h
    rw [f_M_passes_4] at h
    rw [f_M_passes_4]
    refine lc_gR ((hE.fx hm) _ m_k2625).1 (hm _ m_k2625).1 h (fun h => ?_)
    refine lc_aI hE (m_arr_of m_k2625) h (fun i2 h => ?_)
    refine lc_if h (fun h => ?_) (fun h => ?_)
    · exact lc_rZ h (fun h => lc_some hE h)
    · refine lc_if h (fun h => ?_) (fun h => ?_)
      · exact lc_rZ h (fun h => lc_some hE h)
      · refine lc_gR ((hE.fx hm) _ m_k2689).1 (hm _ m_k2689).1 h (fun h => ?_)
        refine lc_aI hE (m_arr_of m_k2689) h (fun i4 h => ?_)
        refine lc_gR ((hE.fx hm) _ m_k3905).1 (hm _ m_k3905).1 h (fun h => ?_)
        refine lc_aI hE (m_arr_of m_k3905) h (fun i6 h => ?_)
        refine lc_if h (fun h => ?_) (fun h => ?_)
        · refine lc_c h (fun q hq => lc_nn (l_M_hasNone _ hE hm (er_nn hq))) (fun i9 s10 t10 hc hE1 h => ?_)
          have hm1 := (w_M_hasNone _ _ hm (er_nn hc)).fx hm
          exact ih _ _ _ hE1 hm1 h
        · refine lc_c h (fun q hq => lc_nn (l_M_compares _ hE hm (er_nn hq))) (fun i7 s8 t8 hc hE2 h => ?_)
          have hm2 := (w_M_compares _ _ hm (er_nn hc)).fx hm
          exact ih _ _ _ hE2 hm2 h
theorem l_M_passes (x1 : Int32) {t0 s0 : g_St} {o : Int32 × g_St} (hE : z_M t0 s0) (hm : m_Fix s0) (h : f_M_passes (some 1) x1 s0 = some o) : ∃ o', f_M_passes (some 1) x1 t0 = some o' ∧ o'.1 = o.1 ∧ z_M o'.2 o.2 := by
  unfold f_M_passes at h
  unfold f_M_passes
  exact l_M_passes_4 _ _ _ _ hE hm h
theorem l_M_isSeen_56 (x3 : Int32) (x5 : Int32) (x6 : Int32) (x0s : Int32) {t0 s0 : g_St} {o : Int32 × g_St} (hE : z_M t0 s0) (hm : m_Fix s0) (h : f_M_isSeen_56 x3 x5 x6 x0s s0 = some o) : ∃ o', f_M_isSeen_56 x3 x5 x6 x0s t0 = some o' ∧ o'.1 = o.1 ∧ z_M o'.2 o.2 := by
  unfold f_M_isSeen_56 at h
  unfold f_M_isSeen_56
  refine lc_if h (fun h => ?_) (fun h => ?_)
  · exact lc_rZ h (fun h => lc_some hE h)
  · refine lc_if h (fun h => ?_) (fun h => ?_)
    · exact lc_rZ h (fun h => lc_some hE h)
    · refine lc_if h (fun h => ?_) (fun h => ?_)
      · exact lc_rZ h (fun h => lc_some hE h)
      · exact lc_rZ h (fun h => lc_some hE h)
theorem l_M_isSeen (x1 : Int32) (x2 : Int32) (x3 : Int32) (x4 : Int32) (x5 : Int32) (x6 : Int32) {t0 s0 : g_St} {o : Int32 × g_St} (hE : z_M t0 s0) (hm : m_Fix s0) (h : f_M_isSeen (some 1) x1 x2 x3 x4 x5 x6 s0 = some o) : ∃ o', f_M_isSeen (some 1) x1 x2 x3 x4 x5 x6 t0 = some o' ∧ o'.1 = o.1 ∧ z_M o'.2 o.2 := by
  unfold f_M_isSeen at h
  unfold f_M_isSeen
  refine lc_if h (fun h => ?_) (fun h => ?_)
  · exact lc_rZ h (fun h => lc_some hE h)
  · refine lc_gR ((hE.fx hm) _ m_k2241).1 (hm _ m_k2241).1 h (fun h => ?_)
    refine lc_aI hE (m_arr_of m_k2241) h (fun i2 h => ?_)
    refine lc_if h (fun h => ?_) (fun h => ?_)
    · refine lc_gR ((hE.fx hm) _ m_k1601).1 (hm _ m_k1601).1 h (fun h => ?_)
      refine lc_aI hE (m_arr_of m_k1601) h (fun i4 h => ?_)
      refine lc_if h (fun h => ?_) (fun h => ?_)
      · exact l_M_isSeen_56 _ _ _ _ hE hm h
      · refine lc_gR ((hE.fx hm) _ m_k5057).1 (hm _ m_k5057).1 h (fun h => ?_)
        refine lc_gR ((hE.fx hm) _ m_k1281).1 (hm _ m_k1281).1 h (fun h => ?_)
        refine lc_aI hE (m_arr_of m_k1281) h (fun i7 h => ?_)
        refine lc_aL hE (m_arr_of m_k5057) h (fun j8 h => ?_)
        refine lc_if h (fun h => ?_) (fun h => ?_)
        · exact l_M_isSeen_56 _ _ _ _ hE hm h
        · exact l_M_isSeen_56 _ _ _ _ hE hm h
    · exact l_M_isSeen_56 _ _ _ _ hE hm h
theorem l_M_gather_117 {k64 k64' : Option Nat → Int32 → Int32 → Int32 → Int32 → Int32 → Int32 → Int32 → Int32 → g_St → Option (Unit × g_St)} (hk64 : ∀ (y1 : Int32) (y2 : Int32) (y3 : Int32) (y4 : Int32) (y5 : Int32) (y6 : Int32) (y7 : Int32) (y8 : Int32) {t s : g_St} {o : Unit × g_St}, z_M t s → m_Fix s → k64 (some 1) y1 y2 y3 y4 y5 y6 y7 y8 s = some o → ∃ o', k64' (some 1) y1 y2 y3 y4 y5 y6 y7 y8 t = some o' ∧ o'.1 = o.1 ∧ z_M o'.2 o.2) (x1 : Int32) (x2 : Int32) (x3 : Int32) (x4 : Int32) (x5 : Int32) (x6 : Int32) (x7 : Int32) (x8 : Int32) (x0s : Int32) {t0 s0 : g_St} {o : Unit × g_St} (hE : z_M t0 s0) (hm : m_Fix s0) (h : f_M_gather_117 k64 (some 1) x1 x2 x3 x4 x5 x6 x7 x8 x0s s0 = some o) : ∃ o', f_M_gather_117 k64' (some 1) x1 x2 x3 x4 x5 x6 x7 x8 x0s t0 = some o' ∧ o'.1 = o.1 ∧ z_M o'.2 o.2 := by
  unfold f_M_gather_117 at h
  unfold f_M_gather_117
  refine lc_if h (fun h => ?_) (fun h => ?_)
  · exact hk64 _ _ _ _ _ _ _ _ hE hm h
  · refine lc_gR ((hE.fx hm) _ m_k6081).1 (hm _ m_k6081).1 h (fun h => ?_)
    refine lc_gR ((hE.fx hm) _ m_k6145).1 (hm _ m_k6145).1 h (fun h => ?_)
    refine lc_aI hE (m_arr_of m_k6145) h (fun i3 h => ?_)
    refine lc_if h (fun h => ?_) (fun h => ?_)
    · refine lc_sI hE (m_arr_of m_k6081) h (fun j1 h => ?_)
      have hE1 := hE.sI 4564 j1 (100 + x8)
      have hm1 := m_setAI 4564 j1 (100 + x8) hm
      refine lc_gR ((hE1.fx hm1) _ m_k6145).1 (hm1 _ m_k6145).1 h (fun h => ?_)
      refine lc_aI hE1 (m_arr_of m_k6145) h (fun i6 h => ?_)
      refine lc_sI hE1 (m_arr_of m_k6145) h (fun j2 h => ?_)
      have hE2 := hE1.sI 4628 j2 (i6 + 1)
      have hm2 := m_setAI 4628 j2 (i6 + 1) hm1
      exact hk64 _ _ _ _ _ _ _ _ hE2 hm2 h
    · refine lc_sI hE (m_arr_of m_k6081) h (fun j3 h => ?_)
      have hE3 := hE.sI 4564 j3 ((16 * x6) + x8)
      have hm3 := m_setAI 4564 j3 ((16 * x6) + x8) hm
      refine lc_gR ((hE3.fx hm3) _ m_k6145).1 (hm3 _ m_k6145).1 h (fun h => ?_)
      refine lc_aI hE3 (m_arr_of m_k6145) h (fun i10 h => ?_)
      refine lc_sI hE3 (m_arr_of m_k6145) h (fun j4 h => ?_)
      have hE4 := hE3.sI 4628 j4 (i10 + 1)
      have hm4 := m_setAI 4628 j4 (i10 + 1) hm3
      exact hk64 _ _ _ _ _ _ _ _ hE4 hm4 h
theorem l_M_gather_64 {k3 k3' : Option Nat → Int32 → Int32 → Int32 → Int32 → Int32 → g_St → Option (Unit × g_St)} (hk3 : ∀ (y1 : Int32) (y2 : Int32) (y3 : Int32) (y4 : Int32) (y5 : Int32) {t s : g_St} {o : Unit × g_St}, z_M t s → m_Fix s → k3 (some 1) y1 y2 y3 y4 y5 s = some o → ∃ o', k3' (some 1) y1 y2 y3 y4 y5 t = some o' ∧ o'.1 = o.1 ∧ z_M o'.2 o.2) : ∀ (n : Nat) (x1 : Int32) (x2 : Int32) (x3 : Int32) (x4 : Int32) (x5 : Int32) (x6 : Int32) (x7 : Int32) (x8 : Int32) {t0 s0 : g_St} {o : Unit × g_St}, z_M t0 s0 → m_Fix s0 → f_M_gather_64 k3 n (some 1) x1 x2 x3 x4 x5 x6 x7 x8 s0 = some o → ∃ o', f_M_gather_64 k3' n (some 1) x1 x2 x3 x4 x5 x6 x7 x8 t0 = some o' ∧ o'.1 = o.1 ∧ z_M o'.2 o.2 := by
  intro n
  induction n with
  | zero =>
    intro x1 x2 x3 x4 x5 x6 x7 x8 t0 s0 o hE hm h
    rw [f_M_gather_64] at h
    cases h
  | succ n ih =>
    intro x1 x2 x3 x4 x5 x6 x7 x8 t0 s0 o hE hm h
    rw [f_M_gather_64] at h
    rw [f_M_gather_64]
    refine lc_if h (fun h => ?_) (fun h => ?_)
    · exact hk3 _ _ _ _ _ hE hm h
    · refine lc_if h (fun h => ?_) (fun h => ?_)
      · exact l_M_gather_117 ih _ _ _ _ _ _ _ _ _ hE hm h
      · refine lc_gR ((hE.fx hm) _ m_k4993).1 (hm _ m_k4993).1 h (fun h => ?_)
        refine lc_aI hE (m_arr_of m_k4993) h (fun i2 h => ?_)
        refine lc_if h (fun h => ?_) (fun h => ?_)
        · refine lc_c h (fun q hq => lc_nn (l_M_isSeen _ _ _ _ _ _ hE hm (er_nn hq))) (fun i3 s4 t4 hc hE1 h => ?_)
          have hm1 := (w_M_isSeen _ _ _ _ _ _ _ hm (er_nn hc)).fx hm
          refine lc_if h (fun h => ?_) (fun h => ?_)
          · exact l_M_gather_117 ih _ _ _ _ _ _ _ _ _ hE1 hm1 h
          · exact l_M_gather_117 ih _ _ _ _ _ _ _ _ _ hE1 hm1 h
        · exact l_M_gather_117 ih _ _ _ _ _ _ _ _ _ hE hm h
theorem l_M_gather_3 : ∀ (n : Nat) (x1 : Int32) (x2 : Int32) (x3 : Int32) (x4 : Int32) (x5 : Int32) {t0 s0 : g_St} {o : Unit × g_St}, z_M t0 s0 → m_Fix s0 → f_M_gather_3 n (some 1) x1 x2 x3 x4 x5 s0 = some o → ∃ o', f_M_gather_3 n (some 1) x1 x2 x3 x4 x5 t0 = some o' ∧ o'.1 = o.1 ∧ z_M o'.2 o.2 := by
  intro n
  induction n with
  | zero =>
    intro x1 x2 x3 x4 x5 t0 s0 o hE hm h
    rw [f_M_gather_3] at h
    cases h
  | succ n ih =>
    intro x1 x2 x3 x4 x5 t0 s0 o hE hm h
    rw [f_M_gather_3] at h
    rw [f_M_gather_3]
    refine lc_gR ((hE.fx hm) _ m_k2561).1 (hm _ m_k2561).1 h (fun h => ?_)
    refine lc_aI hE (m_arr_of m_k2561) h (fun i2 h => ?_)
    refine lc_if h (fun h => ?_) (fun h => ?_)
    · exact lc_some hE h
    · refine lc_gR ((hE.fx hm) _ m_k3777).1 (hm _ m_k3777).1 h (fun h => ?_)
      refine lc_gR ((hE.fx hm) _ m_k2497).1 (hm _ m_k2497).1 h (fun h => ?_)
      refine lc_aI hE (m_arr_of m_k2497) h (fun i5 h => ?_)
      refine lc_aI hE (m_arr_of m_k3777) h (fun i6 h => ?_)
      refine lc_gR ((hE.fx hm) _ m_k6145).1 (hm _ m_k6145).1 h (fun h => ?_)
      refine lc_sI hE (m_arr_of m_k6145) h (fun j1 h => ?_)
      have hE1 := hE.sI 4628 j1 0
      have hm1 := m_setAI 4628 j1 0 hm
      refine lc_if h (fun h => ?_) (fun h => ?_)
      · refine lc_gI hE1 (by decide) h (fun i9 h => ?_)
        exact l_M_gather_64 ih _ _ _ _ _ _ _ _ _ hE1 hm1 h
      · refine lc_gR ((hE1.fx hm1) _ m_k193).1 (hm1 _ m_k193).1 h (fun h => ?_)
        refine lc_aI hE1 (m_arr_of m_k193) h (fun i11 h => ?_)
        exact l_M_gather_64 ih _ _ _ _ _ _ _ _ _ hE1 hm1 h
theorem l_M_gather (x1 : Int32) (x2 : Int32) (x3 : Int32) (x4 : Int32) {t0 s0 : g_St} {o : Unit × g_St} (hE : z_M t0 s0) (hm : m_Fix s0) (h : f_M_gather (some 1) x1 x2 x3 x4 s0 = some o) : ∃ o', f_M_gather (some 1) x1 x2 x3 x4 t0 = some o' ∧ o'.1 = o.1 ∧ z_M o'.2 o.2 := by
  unfold f_M_gather at h
  unfold f_M_gather
  exact l_M_gather_3 _ _ _ _ _ _ hE hm h
theorem l_M_first_4 : ∀ (n : Nat) (x1 : Int32) (x2 : Int32) (x3 : Int32) {t0 s0 : g_St} {o : Int32 × g_St}, z_M t0 s0 → m_Fix s0 → f_M_first_4 n (some 1) x1 x2 x3 s0 = some o → ∃ o', f_M_first_4 n (some 1) x1 x2 x3 t0 = some o' ∧ o'.1 = o.1 ∧ z_M o'.2 o.2 := by
  intro n
  induction n with
  | zero =>
    intro x1 x2 x3 t0 s0 o hE hm h
    rw [f_M_first_4] at h
    cases h
  | succ n ih =>
    intro x1 x2 x3 t0 s0 o hE hm h
    rw [f_M_first_4] at h
    rw [f_M_first_4]
    refine lc_gR ((hE.fx hm) _ m_k2561).1 (hm _ m_k2561).1 h (fun h => ?_)
    refine lc_aI hE (m_arr_of m_k2561) h (fun i2 h => ?_)
    refine lc_if h (fun h => ?_) (fun h => ?_)
    · exact lc_rZ h (fun h => lc_some hE h)
    · refine lc_gR ((hE.fx hm) _ m_k6209).1 (hm _ m_k6209).1 h (fun h => ?_)
      refine lc_sI hE (m_arr_of m_k6209) h (fun j1 h => ?_)
      have hE1 := hE.sI 4692 j1 0
      have hm1 := m_setAI 4692 j1 0 hm
      refine lc_if h (fun h => ?_) (fun h => ?_)
      · exact ih _ _ _ hE1 hm1 h
      · refine lc_gR ((hE1.fx hm1) _ m_k6145).1 (hm1 _ m_k6145).1 h (fun h => ?_)
        refine lc_aI hE1 (m_arr_of m_k6145) h (fun i6 h => ?_)
        refine lc_if h (fun h => ?_) (fun h => ?_)
        · exact ih _ _ _ hE1 hm1 h
        · exact ih _ _ _ hE1 hm1 h
theorem l_M_first (x1 : Int32) {t0 s0 : g_St} {o : Int32 × g_St} (hE : z_M t0 s0) (hm : m_Fix s0) (h : f_M_first (some 1) x1 s0 = some o) : ∃ o', f_M_first (some 1) x1 t0 = some o' ∧ o'.1 = o.1 ∧ z_M o'.2 o.2 := by
  unfold f_M_first at h
  unfold f_M_first
  exact l_M_first_4 _ _ _ _ hE hm h
theorem l_M_next_43 (x2 : Int32) {t0 s0 : g_St} {o : Int32 × g_St} (hE : z_M t0 s0) (hm : m_Fix s0) (h : f_M_next_43 (some 1) x2 s0 = some o) : ∃ o', f_M_next_43 (some 1) x2 t0 = some o' ∧ o'.1 = o.1 ∧ z_M o'.2 o.2 := by
  unfold f_M_next_43 at h
  unfold f_M_next_43
  refine lc_if h (fun h => ?_) (fun h => ?_)
  · refine lc_gR ((hE.fx hm) _ m_k6209).1 (hm _ m_k6209).1 h (fun h => ?_)
    refine lc_aI hE (m_arr_of m_k6209) h (fun i2 h => ?_)
    refine lc_sI hE (m_arr_of m_k6209) h (fun j1 h => ?_)
    have hE1 := hE.sI 4692 j1 (i2 + 1)
    have hm1 := m_setAI 4692 j1 (i2 + 1) hm
    exact lc_rZ h (fun h => lc_some hE1 h)
  · exact lc_rZ h (fun h => lc_some hE h)
theorem l_M_next_9 : ∀ (n : Nat) (x2 : Int32) {t0 s0 : g_St} {o : Int32 × g_St}, z_M t0 s0 → m_Fix s0 → f_M_next_9 n (some 1) x2 s0 = some o → ∃ o', f_M_next_9 n (some 1) x2 t0 = some o' ∧ o'.1 = o.1 ∧ z_M o'.2 o.2 := by
  intro n
  induction n with
  | zero =>
    intro x2 t0 s0 o hE hm h
    rw [f_M_next_9] at h
    cases h
  | succ n ih =>
    intro x2 t0 s0 o hE hm h
    rw [f_M_next_9] at h
    rw [f_M_next_9]
    refine lc_if h (fun h => ?_) (fun h => ?_)
    · exact l_M_next_43 _ hE hm h
    · refine lc_gR ((hE.fx hm) _ m_k6209).1 (hm _ m_k6209).1 h (fun h => ?_)
      refine lc_aI hE (m_arr_of m_k6209) h (fun i2 h => ?_)
      refine lc_gR ((hE.fx hm) _ m_k6145).1 (hm _ m_k6145).1 h (fun h => ?_)
      refine lc_aI hE (m_arr_of m_k6145) h (fun i4 h => ?_)
      refine lc_if h (fun h => ?_) (fun h => ?_)
      · refine lc_gR ((hE.fx hm) _ m_k6209).1 (hm _ m_k6209).1 h (fun h => ?_)
        refine lc_sI hE (m_arr_of m_k6209) h (fun j1 h => ?_)
        have hE1 := hE.sI 4692 j1 0
        have hm1 := m_setAI 4692 j1 0 hm
        exact ih _ hE1 hm1 h
      · exact l_M_next_43 _ hE hm h
theorem l_M_next (x1 : Int32) {t0 s0 : g_St} {o : Int32 × g_St} (hE : z_M t0 s0) (hm : m_Fix s0) (h : f_M_next (some 1) x1 s0 = some o) : ∃ o', f_M_next (some 1) x1 t0 = some o' ∧ o'.1 = o.1 ∧ z_M o'.2 o.2 := by
  unfold f_M_next at h
  unfold f_M_next
  refine lc_gR ((hE.fx hm) _ m_k2561).1 (hm _ m_k2561).1 h (fun h => ?_)
  refine lc_aI hE (m_arr_of m_k2561) h (fun i2 h => ?_)
  exact l_M_next_9 _ _ hE hm h
theorem l_M_matches_2 : ∀ (n : Nat) (x1 : Int32) (x2 : Int32) {t0 s0 : g_St} {o : Int32 × g_St}, z_M t0 s0 → m_Fix s0 → f_M_matches_2 n (some 1) x1 x2 s0 = some o → ∃ o', f_M_matches_2 n (some 1) x1 x2 t0 = some o' ∧ o'.1 = o.1 ∧ z_M o'.2 o.2 := by
  intro n
  induction n with
  | zero =>
    intro x1 x2 t0 s0 o hE hm h
    rw [f_M_matches_2] at h
    cases h
  | succ n ih =>
    intro x1 x2 t0 s0 o hE hm h
    rw [f_M_matches_2] at h
    rw [f_M_matches_2]
    refine lc_gR ((hE.fx hm) _ m_k2561).1 (hm _ m_k2561).1 h (fun h => ?_)
    refine lc_aI hE (m_arr_of m_k2561) h (fun i2 h => ?_)
    refine lc_if h (fun h => ?_) (fun h => ?_)
    · refine lc_c h (fun q hq => lc_nn (l_M_passes _ hE hm (er_nn hq))) (fun i3 s4 t4 hc hE1 h => ?_)
      have hm1 := (w_M_passes _ _ hm (er_nn hc)).fx hm
      exact lc_rZ h (fun h => lc_some hE1 h)
    · refine lc_gR ((hE.fx hm) _ m_k6273).1 (hm _ m_k6273).1 h (fun h => ?_)
      refine lc_gR ((hE.fx hm) _ m_k6081).1 (hm _ m_k6081).1 h (fun h => ?_)
      refine lc_gR ((hE.fx hm) _ m_k6209).1 (hm _ m_k6209).1 h (fun h => ?_)
      refine lc_aI hE (m_arr_of m_k6209) h (fun i8 h => ?_)
      refine lc_aI hE (m_arr_of m_k6081) h (fun i9 h => ?_)
      refine lc_sI hE (m_arr_of m_k6273) h (fun j2 h => ?_)
      have hE2 := hE.sI 4756 j2 i9
      have hm2 := m_setAI 4756 j2 i9 hm
      exact ih _ _ hE2 hm2 h
theorem l_M_matches (x1 : Int32) {t0 s0 : g_St} {o : Int32 × g_St} (hE : z_M t0 s0) (hm : m_Fix s0) (h : f_M_matches (some 1) x1 s0 = some o) : ∃ o', f_M_matches (some 1) x1 t0 = some o' ∧ o'.1 = o.1 ∧ z_M o'.2 o.2 := by
  unfold f_M_matches at h
  unfold f_M_matches
  exact l_M_matches_2 _ _ _ hE hm h
theorem l_M_isInt (y0 : Int64) {t0 s0 : g_St} {o : Int32 × g_St} (hE : z_M t0 s0) (hm : m_Fix s0) (h : f_M_isInt y0 s0 = some o) : ∃ o', f_M_isInt y0 t0 = some o' ∧ o'.1 = o.1 ∧ z_M o'.2 o.2 := by
  unfold f_M_isInt at h
  unfold f_M_isInt
  refine lc_if h (fun h => ?_) (fun h => ?_)
  · exact lc_rZ h (fun h => lc_some hE h)
  · refine lc_if h (fun h => ?_) (fun h => ?_)
    · exact lc_rZ h (fun h => lc_some hE h)
    · exact lc_rZ h (fun h => lc_some hE h)
theorem l_M_fits (y0 : Int64) {t0 s0 : g_St} {o : Int32 × g_St} (hE : z_M t0 s0) (hm : m_Fix s0) (h : f_M_fits y0 s0 = some o) : ∃ o', f_M_fits y0 t0 = some o' ∧ o'.1 = o.1 ∧ z_M o'.2 o.2 := by
  unfold f_M_fits at h
  unfold f_M_fits
  refine lc_if h (fun h => ?_) (fun h => ?_)
  · exact lc_rZ h (fun h => lc_some hE h)
  · refine lc_c h (fun q hq => l_M_isInt _ hE hm hq) (fun i1 s2 t2 hc hE1 h => ?_)
    have hm1 := (w_M_isInt _ _ hm hc).fx hm
    refine lc_if h (fun h => ?_) (fun h => ?_)
    · exact lc_rZ h (fun h => lc_some hE1 h)
    · exact lc_rZ h (fun h => lc_some hE1 h)
theorem l_M_itemOf (x1 : Int32) (x2 : Int32) {t0 s0 : g_St} {o : Int64 × g_St} (hE : z_M t0 s0) (hm : m_Fix s0) (h : f_M_itemOf (some 1) x1 x2 s0 = some o) : ∃ o', f_M_itemOf (some 1) x1 x2 t0 = some o' ∧ o'.1 = o.1 ∧ z_M o'.2 o.2 := by
  unfold f_M_itemOf at h
  unfold f_M_itemOf
  refine lc_gR ((hE.fx hm) _ m_k2945).1 (hm _ m_k2945).1 h (fun h => ?_)
  refine lc_gR ((hE.fx hm) _ m_k2369).1 (hm _ m_k2369).1 h (fun h => ?_)
  refine lc_aI hE (m_arr_of m_k2369) h (fun i3 h => ?_)
  refine lc_aI hE (m_arr_of m_k2945) h (fun i4 h => ?_)
  refine lc_c h (fun q hq => lc_nn (l_M_valueOf _ hE hm (er_nn hq))) (fun j5 s6 t6 hc hE1 h => ?_)
  have hm1 := (w_M_valueOf _ _ hm (er_nn hc)).fx hm
  exact lc_some hE1 h
theorem l_M_kindOf (x1 : Int32) (x2 : Int32) {t0 s0 : g_St} {o : Int32 × g_St} (hE : z_M t0 s0) (hm : m_Fix s0) (h : f_M_kindOf (some 1) x1 x2 s0 = some o) : ∃ o', f_M_kindOf (some 1) x1 x2 t0 = some o' ∧ o'.1 = o.1 ∧ z_M o'.2 o.2 := by
  unfold f_M_kindOf at h
  unfold f_M_kindOf
  refine lc_gR ((hE.fx hm) _ m_k2881).1 (hm _ m_k2881).1 h (fun h => ?_)
  refine lc_gR ((hE.fx hm) _ m_k2369).1 (hm _ m_k2369).1 h (fun h => ?_)
  refine lc_aI hE (m_arr_of m_k2369) h (fun i3 h => ?_)
  refine lc_aI hE (m_arr_of m_k2881) h (fun i4 h => ?_)
  exact lc_some hE h
theorem l_M_openGroup_60 {k2 k2' : Option Nat → Int32 → Int32 → g_St → Option (Unit × g_St)} (hk2 : ∀ (y1 : Int32) (y2 : Int32) {t s : g_St} {o : Unit × g_St}, z_M t s → m_Fix s → k2 (some 1) y1 y2 s = some o → ∃ o', k2' (some 1) y1 y2 t = some o' ∧ o'.1 = o.1 ∧ z_M o'.2 o.2) (x1 : Int32) (x2 : Int32) (x1s : Int32) (y2s : Int64) {t0 s0 : g_St} {o : Unit × g_St} (hE : z_M t0 s0) (hm : m_Fix s0) (h : f_M_openGroup_60 k2 (some 1) x1 x2 (some 1109) x1s y2s s0 = some o) : ∃ o', f_M_openGroup_60 k2' (some 1) x1 x2 (some 1109) x1s y2s t0 = some o' ∧ o'.1 = o.1 ∧ z_M o'.2 o.2 := by
  unfold f_M_openGroup_60 at h
  unfold f_M_openGroup_60
  refine lc_sL hE (m_arr_of m_k6401) h (fun j1 h => ?_)
  have hE1 := hE.sL 1109 j1 y2s
  have hm1 := m_setAL 1109 j1 y2s hm
  refine lc_gR ((hE1.fx hm1) _ m_k6465).1 (hm1 _ m_k6465).1 h (fun h => ?_)
  refine lc_gI hE1 (by decide) h (fun i3 h => ?_)
  refine lc_sL hE1 (m_arr_of m_k6465) h (fun j2 h => ?_)
  have hE2 := hE1.sL 1173 j2 0
  have hm2 := m_setAL 1173 j2 0 hm1
  exact hk2 _ _ hE2 hm2 h
theorem l_M_openGroup_2 : ∀ (n : Nat) (x1 : Int32) (x2 : Int32) {t0 s0 : g_St} {o : Unit × g_St}, z_M t0 s0 → m_Fix s0 → f_M_openGroup_2 n (some 1) x1 x2 s0 = some o → ∃ o', f_M_openGroup_2 n (some 1) x1 x2 t0 = some o' ∧ o'.1 = o.1 ∧ z_M o'.2 o.2 := by
  intro n
  induction n with
  | zero =>
    intro x1 x2 t0 s0 o hE hm h
    rw [f_M_openGroup_2] at h
    cases h
  | succ n ih =>
    intro x1 x2 t0 s0 o hE hm h
    rw [f_M_openGroup_2] at h
    rw [f_M_openGroup_2]
    refine lc_gR ((hE.fx hm) _ m_k2433).1 (hm _ m_k2433).1 h (fun h => ?_)
    refine lc_aI hE (m_arr_of m_k2433) h (fun i2 h => ?_)
    refine lc_if h (fun h => ?_) (fun h => ?_)
    · refine lc_gI hE (by decide) h (fun i3 h => ?_)
      refine lc_pI h (fun h => ?_)
      have hE1 := hE.pI 6337 (i3 + 1)
      have hm1 := m_setI 6337 (i3 + 1) hm
      exact lc_some hE1 h
    · refine lc_gR ((hE.fx hm) _ m_k6401).1 (hm _ m_k6401).1 h (fun h => ?_)
      refine lc_gI hE (by decide) h (fun i6 h => ?_)
      refine lc_c h (fun q hq => lc_nn (l_M_kindOf _ _ hE hm (er_nn hq))) (fun i7 s8 t8 hc hE2 h => ?_)
      have hm2 := (w_M_kindOf _ _ _ hm (er_nn hc)).fx hm
      refine lc_if h (fun h => ?_) (fun h => ?_)
      · refine lc_c h (fun q hq => lc_nn (l_M_itemOf _ _ hE2 hm2 (er_nn hq))) (fun j11 s12 t12 hc hE3 h => ?_)
        have hm3 := (w_M_itemOf _ _ _ hm2 (er_nn hc)).fx hm2
        exact l_M_openGroup_60 ih _ _ _ _ hE3 hm3 h
      · refine lc_c h (fun q hq => lc_nn (l_M_kindOf _ _ hE2 hm2 (er_nn hq))) (fun i9 s10 t10 hc hE4 h => ?_)
        have hm4 := (w_M_kindOf _ _ _ hm2 (er_nn hc)).fx hm2
        refine lc_if h (fun h => ?_) (fun h => ?_)
        · exact l_M_openGroup_60 ih _ _ _ _ hE4 hm4 h
        · exact l_M_openGroup_60 ih _ _ _ _ hE4 hm4 h
theorem l_M_openGroup (x1 : Int32) {t0 s0 : g_St} {o : Unit × g_St} (hE : z_M t0 s0) (hm : m_Fix s0) (h : f_M_openGroup (some 1) x1 s0 = some o) : ∃ o', f_M_openGroup (some 1) x1 t0 = some o' ∧ o'.1 = o.1 ∧ z_M o'.2 o.2 := by
  unfold f_M_openGroup at h
  unfold f_M_openGroup
  exact l_M_openGroup_2 _ _ _ hE hm h
theorem l_M_groupOf_21 {k4 k4' : Option Nat → Int32 → Int32 → Int32 → g_St → Option (Int32 × g_St)} (hk4 : ∀ (y1 : Int32) (y2 : Int32) (y3 : Int32) {t s : g_St} {o : Int32 × g_St}, z_M t s → m_Fix s → k4 (some 1) y1 y2 y3 s = some o → ∃ o', k4' (some 1) y1 y2 y3 t = some o' ∧ o'.1 = o.1 ∧ z_M o'.2 o.2) : ∀ (n : Nat) (x1 : Int32) (x2 : Int32) (x3 : Int32) (x4 : Int32) {t0 s0 : g_St} {o : Int32 × g_St}, z_M t0 s0 → m_Fix s0 → f_M_groupOf_21 k4 n (some 1) x1 x2 x3 x4 s0 = some o → ∃ o', f_M_groupOf_21 k4' n (some 1) x1 x2 x3 x4 t0 = some o' ∧ o'.1 = o.1 ∧ z_M o'.2 o.2 := by
  intro n
  induction n with
  | zero =>
    intro x1 x2 x3 x4 t0 s0 o hE hm h
    rw [f_M_groupOf_21] at h
    cases h
  | succ n ih =>
    intro x1 x2 x3 x4 t0 s0 o hE hm h
    rw [f_M_groupOf_21] at h
    rw [f_M_groupOf_21]
    refine lc_gR ((hE.fx hm) _ m_k2433).1 (hm _ m_k2433).1 h (fun h => ?_)
    refine lc_aI hE (m_arr_of m_k2433) h (fun i2 h => ?_)
    refine lc_if h (fun h => ?_) (fun h => ?_)
    · refine lc_if h (fun h => ?_) (fun h => ?_)
      · exact hk4 _ _ _ hE hm h
      · exact hk4 _ _ _ hE hm h
    · refine lc_if h (fun h => ?_) (fun h => ?_)
      · exact ih _ _ _ _ hE hm h
      · refine lc_c h (fun q hq => lc_nn (l_M_kindOf _ _ hE hm (er_nn hq))) (fun i3 s4 t4 hc hE1 h => ?_)
        have hm1 := (w_M_kindOf _ _ _ hm (er_nn hc)).fx hm
        refine lc_if h (fun h => ?_) (fun h => ?_)
        · exact ih _ _ _ _ hE1 hm1 h
        · refine lc_gR ((hE1.fx hm1) _ m_k6401).1 (hm1 _ m_k6401).1 h (fun h => ?_)
          refine lc_aL hE1 (m_arr_of m_k6401) h (fun j6 h => ?_)
          refine lc_c h (fun q hq => lc_nn (l_M_itemOf _ _ hE1 hm1 (er_nn hq))) (fun j7 s8 t8 hc hE2 h => ?_)
          have hm2 := (w_M_itemOf _ _ _ hm1 (er_nn hc)).fx hm1
          refine lc_if h (fun h => ?_) (fun h => ?_)
          · exact ih _ _ _ _ hE2 hm2 h
          · exact ih _ _ _ _ hE2 hm2 h
theorem l_M_groupOf_4 : ∀ (n : Nat) (x1 : Int32) (x2 : Int32) (x3 : Int32) {t0 s0 : g_St} {o : Int32 × g_St}, z_M t0 s0 → m_Fix s0 → f_M_groupOf_4 n (some 1) x1 x2 x3 s0 = some o → ∃ o', f_M_groupOf_4 n (some 1) x1 x2 x3 t0 = some o' ∧ o'.1 = o.1 ∧ z_M o'.2 o.2 := by
  intro n
  induction n with
  | zero =>
    intro x1 x2 x3 t0 s0 o hE hm h
    rw [f_M_groupOf_4] at h
    cases h
  | succ n ih =>
    intro x1 x2 x3 t0 s0 o hE hm h
    rw [f_M_groupOf_4] at h
    rw [f_M_groupOf_4]
    refine lc_gI hE (by decide) h (fun i1 h => ?_)
    refine lc_if h (fun h => ?_) (fun h => ?_)
    · exact lc_some hE h
    · refine lc_if h (fun h => ?_) (fun h => ?_)
      · exact l_M_groupOf_21 ih _ _ _ _ _ hE hm h
      · exact lc_some hE h
theorem l_M_groupOf (x1 : Int32) {t0 s0 : g_St} {o : Int32 × g_St} (hE : z_M t0 s0) (hm : m_Fix s0) (h : f_M_groupOf (some 1) x1 s0 = some o) : ∃ o', f_M_groupOf (some 1) x1 t0 = some o' ∧ o'.1 = o.1 ∧ z_M o'.2 o.2 := by
  unfold f_M_groupOf at h
  unfold f_M_groupOf
  exact l_M_groupOf_4 _ _ _ _ hE hm h
theorem l_M_fold_47 (x1 : Int32) (x2 : Int32) (y3 : Int64) (x0s : Int32) {t0 s0 : g_St} {o : Unit × g_St} (hE : z_M t0 s0) (hm : m_Fix s0) (h : f_M_fold_47 (some 1) x1 x2 y3 x0s s0 = some o) : ∃ o', f_M_fold_47 (some 1) x1 x2 y3 x0s t0 = some o' ∧ o'.1 = o.1 ∧ z_M o'.2 o.2 := by
  unfold f_M_fold_47 at h
  unfold f_M_fold_47
  refine lc_gR ((hE.fx hm) _ m_k6465).1 (hm _ m_k6465).1 h (fun h => ?_)
  refine lc_aL hE (m_arr_of m_k6465) h (fun j2 h => ?_)
  refine lc_sL hE (m_arr_of m_k6465) h (fun j1 h => ?_)
  have hE1 := hE.sL 1173 j1 (j2 + 1)
  have hm1 := m_setAL 1173 j1 (j2 + 1) hm
  refine lc_gR ((hE1.fx hm1) _ m_k6401).1 (hm1 _ m_k6401).1 h (fun h => ?_)
  refine lc_aL hE1 (m_arr_of m_k6401) h (fun j5 h => ?_)
  refine lc_gR ((hE1.fx hm1) _ m_k6401).1 (hm1 _ m_k6401).1 h (fun h => ?_)
  refine lc_if h (fun h => ?_) (fun h => ?_)
  · refine lc_if h (fun h => ?_) (fun h => ?_)
    · refine lc_sL hE1 (m_arr_of m_k6401) h (fun j2 h => ?_)
      have hE2 := hE1.sL 1109 j2 (j5 + y3)
      have hm2 := m_setAL 1109 j2 (j5 + y3) hm1
      exact lc_some hE2 h
    · refine lc_if h (fun h => ?_) (fun h => ?_)
      · refine lc_if h (fun h => ?_) (fun h => ?_)
        · refine lc_sL hE1 (m_arr_of m_k6401) h (fun j3 h => ?_)
          have hE3 := hE1.sL 1109 j3 y3
          have hm3 := m_setAL 1109 j3 y3 hm1
          exact lc_some hE3 h
        · refine lc_sL hE1 (m_arr_of m_k6401) h (fun j4 h => ?_)
          have hE4 := hE1.sL 1109 j4 j5
          have hm4 := m_setAL 1109 j4 j5 hm1
          exact lc_some hE4 h
      · refine lc_if h (fun h => ?_) (fun h => ?_)
        · refine lc_sL hE1 (m_arr_of m_k6401) h (fun j5 h => ?_)
          have hE5 := hE1.sL 1109 j5 y3
          have hm5 := m_setAL 1109 j5 y3 hm1
          exact lc_some hE5 h
        · refine lc_sL hE1 (m_arr_of m_k6401) h (fun j6 h => ?_)
          have hE6 := hE1.sL 1109 j6 j5
          have hm6 := m_setAL 1109 j6 j5 hm1
          exact lc_some hE6 h
  · refine lc_sL hE1 (m_arr_of m_k6401) h (fun j7 h => ?_)
    have hE7 := hE1.sL 1109 j7 y3
    have hm7 := m_setAL 1109 j7 y3 hm1
    exact lc_some hE7 h
theorem l_M_fold (x1 : Int32) (x2 : Int32) (y3 : Int64) {t0 s0 : g_St} {o : Unit × g_St} (hE : z_M t0 s0) (hm : m_Fix s0) (h : f_M_fold (some 1) x1 x2 y3 s0 = some o) : ∃ o', f_M_fold (some 1) x1 x2 y3 t0 = some o' ∧ o'.1 = o.1 ∧ z_M o'.2 o.2 := by
  unfold f_M_fold at h
  unfold f_M_fold
  refine lc_if h (fun h => ?_) (fun h => ?_)
  · exact lc_some hE h
  · refine lc_if h (fun h => ?_) (fun h => ?_)
    · refine lc_gR ((hE.fx hm) _ m_k6401).1 (hm _ m_k6401).1 h (fun h => ?_)
      refine lc_aL hE (m_arr_of m_k6401) h (fun j4 h => ?_)
      refine lc_sL hE (m_arr_of m_k6401) h (fun j1 h => ?_)
      have hE1 := hE.sL 1109 j1 (j4 + 1)
      have hm1 := m_setAL 1109 j1 (j4 + 1) hm
      exact lc_some hE1 h
    · refine lc_if h (fun h => ?_) (fun h => ?_)
      · exact lc_some hE h
      · refine lc_gR ((hE.fx hm) _ m_k6465).1 (hm _ m_k6465).1 h (fun h => ?_)
        refine lc_aL hE (m_arr_of m_k6465) h (fun j2 h => ?_)
        refine lc_if h (fun h => ?_) (fun h => ?_)
        · exact l_M_fold_47 _ _ _ _ hE hm h
        · exact l_M_fold_47 _ _ _ _ hE hm h
theorem l_M_makeGroups_180 {k59 k59' : Option Nat → Int32 → Int32 → g_St → Option (Unit × g_St)} (hk59 : ∀ (y1 : Int32) (y2 : Int32) {t s : g_St} {o : Unit × g_St}, z_M t s → m_Fix s → k59 (some 1) y1 y2 s = some o → ∃ o', k59' (some 1) y1 y2 t = some o' ∧ o'.1 = o.1 ∧ z_M o'.2 o.2) (x1 : Int32) {t0 s0 : g_St} {o : Unit × g_St} (hE : z_M t0 s0) (hm : m_Fix s0) (h : f_M_makeGroups_180 k59 (some 1) x1 s0 = some o) : ∃ o', f_M_makeGroups_180 k59' (some 1) x1 t0 = some o' ∧ o'.1 = o.1 ∧ z_M o'.2 o.2 := by
  unfold f_M_makeGroups_180 at h
  unfold f_M_makeGroups_180
  refine lc_c h (fun q hq => lc_nn (l_M_next _ hE hm (er_nn hq))) (fun i1 s2 t2 hc hE1 h => ?_)
  have hm1 := (w_M_next _ _ hm (er_nn hc)).fx hm
  exact hk59 _ _ hE1 hm1 h
theorem l_M_makeGroups_171 {k112 k112' : Option Nat → Int32 → Int32 → Int32 → g_St → Option (Unit × g_St)} (hk112 : ∀ (y1 : Int32) (y2 : Int32) (y3 : Int32) {t s : g_St} {o : Unit × g_St}, z_M t s → m_Fix s → k112 (some 1) y1 y2 y3 s = some o → ∃ o', k112' (some 1) y1 y2 y3 t = some o' ∧ o'.1 = o.1 ∧ z_M o'.2 o.2) (x1 : Int32) (x4 : Int32) (x5 : Int32) (x1s : Int32) (x2s : Int32) (y3s : Int64) {t0 s0 : g_St} {o : Unit × g_St} (hE : z_M t0 s0) (hm : m_Fix s0) (h : f_M_makeGroups_171 k112 (some 1) x1 x4 x5 (some 1) x1s x2s y3s s0 = some o) : ∃ o', f_M_makeGroups_171 k112' (some 1) x1 x4 x5 (some 1) x1s x2s y3s t0 = some o' ∧ o'.1 = o.1 ∧ z_M o'.2 o.2 := by
  unfold f_M_makeGroups_171 at h
  unfold f_M_makeGroups_171
  refine lc_c h (fun q hq => lc_nn (l_M_fold _ _ _ hE hm (er_nn hq))) (fun v1 s2 t2 hc hE1 h => ?_)
  have hm1 := (w_M_fold _ _ _ _ hm (er_nn hc)).fx hm
  exact hk112 _ _ _ hE1 hm1 h
theorem l_M_makeGroups_112 {k59 k59' : Option Nat → Int32 → Int32 → g_St → Option (Unit × g_St)} (hk59 : ∀ (y1 : Int32) (y2 : Int32) {t s : g_St} {o : Unit × g_St}, z_M t s → m_Fix s → k59 (some 1) y1 y2 s = some o → ∃ o', k59' (some 1) y1 y2 t = some o' ∧ o'.1 = o.1 ∧ z_M o'.2 o.2) : ∀ (n : Nat) (x1 : Int32) (x4 : Int32) (x5 : Int32) {t0 s0 : g_St} {o : Unit × g_St}, z_M t0 s0 → m_Fix s0 → f_M_makeGroups_112 k59 n (some 1) x1 x4 x5 s0 = some o → ∃ o', f_M_makeGroups_112 k59' n (some 1) x1 x4 x5 t0 = some o' ∧ o'.1 = o.1 ∧ z_M o'.2 o.2 := by
  intro n
  induction n with
  | zero =>
    intro x1 x4 x5 t0 s0 o hE hm h
    rw [f_M_makeGroups_112] at h
    cases h
  | succ n ih =>
    intro x1 x4 x5 t0 s0 o hE hm h
    rw [f_M_makeGroups_112] at h
    rw [f_M_makeGroups_112]
    refine lc_gR ((hE.fx hm) _ m_k2433).1 (hm _ m_k2433).1 h (fun h => ?_)
    refine lc_aI hE (m_arr_of m_k2433) h (fun i2 h => ?_)
    refine lc_if h (fun h => ?_) (fun h => ?_)
    · exact l_M_makeGroups_180 hk59 _ hE hm h
    · refine lc_c h (fun q hq => lc_nn (l_M_kindOf _ _ hE hm (er_nn hq))) (fun i3 s4 t4 hc hE1 h => ?_)
      have hm1 := (w_M_kindOf _ _ _ hm (er_nn hc)).fx hm
      refine lc_c h (fun q hq => lc_nn (l_M_kindOf _ _ hE1 hm1 (er_nn hq))) (fun i5 s6 t6 hc hE2 h => ?_)
      have hm2 := (w_M_kindOf _ _ _ hm1 (er_nn hc)).fx hm1
      refine lc_if h (fun h => ?_) (fun h => ?_)
      · exact l_M_makeGroups_171 ih _ _ _ _ _ _ hE2 hm2 h
      · refine lc_c h (fun q hq => lc_nn (l_M_kindOf _ _ hE2 hm2 (er_nn hq))) (fun i7 s8 t8 hc hE3 h => ?_)
        have hm3 := (w_M_kindOf _ _ _ hm2 (er_nn hc)).fx hm2
        refine lc_if h (fun h => ?_) (fun h => ?_)
        · exact l_M_makeGroups_171 ih _ _ _ _ _ _ hE3 hm3 h
        · refine lc_c h (fun q hq => lc_nn (l_M_itemOf _ _ hE3 hm3 (er_nn hq))) (fun j9 s10 t10 hc hE4 h => ?_)
          have hm4 := (w_M_itemOf _ _ _ hm3 (er_nn hc)).fx hm3
          exact l_M_makeGroups_171 ih _ _ _ _ _ _ hE4 hm4 h
theorem l_M_makeGroups_59 : ∀ (n : Nat) (x1 : Int32) (x3 : Int32) {t0 s0 : g_St} {o : Unit × g_St}, z_M t0 s0 → m_Fix s0 → f_M_makeGroups_59 n (some 1) x1 x3 s0 = some o → ∃ o', f_M_makeGroups_59 n (some 1) x1 x3 t0 = some o' ∧ o'.1 = o.1 ∧ z_M o'.2 o.2 := by
  intro n
  induction n with
  | zero =>
    intro x1 x3 t0 s0 o hE hm h
    rw [f_M_makeGroups_59] at h
    cases h
  | succ n ih =>
    intro x1 x3 t0 s0 o hE hm h
    rw [f_M_makeGroups_59] at h
    rw [f_M_makeGroups_59]
    refine lc_if h (fun h => ?_) (fun h => ?_)
    · refine lc_gI hE (by decide) h (fun i1 h => ?_)
      refine lc_gI hE (by decide) h (fun i2 h => ?_)
      refine lc_if h (fun h => ?_) (fun h => ?_)
      · exact lc_some hE h
      · refine lc_pI h (fun h => ?_)
        have hE1 := hE.pI 1 4
        have hm1 := m_setI 1 4 hm
        exact lc_some hE1 h
    · refine lc_c h (fun q hq => lc_nn (l_M_matches _ hE hm (er_nn hq))) (fun i4 s5 t5 hc hE2 h => ?_)
      have hm2 := (w_M_matches _ _ hm (er_nn hc)).fx hm
      refine lc_if h (fun h => ?_) (fun h => ?_)
      · exact l_M_makeGroups_180 ih _ hE2 hm2 h
      · refine lc_c h (fun q hq => lc_nn (l_M_groupOf _ hE2 hm2 (er_nn hq))) (fun i6 s7 t7 hc hE3 h => ?_)
        have hm3 := (w_M_groupOf _ _ hm2 (er_nn hc)).fx hm2
        refine lc_gI hE3 (by decide) h (fun i8 h => ?_)
        refine lc_if h (fun h => ?_) (fun h => ?_)
        · refine lc_gI hE3 (by decide) h (fun i9 h => ?_)
          refine lc_gI hE3 (by decide) h (fun i10 h => ?_)
          refine lc_if h (fun h => ?_) (fun h => ?_)
          · refine lc_c h (fun q hq => lc_nn (l_M_openGroup _ hE3 hm3 (er_nn hq))) (fun v4 s12 t12 hc hE4 h => ?_)
            have hm4 := (w_M_openGroup _ _ hm3 (er_nn hc)).fx hm3
            exact l_M_makeGroups_112 ih _ _ _ _ hE4 hm4 h
          · exact l_M_makeGroups_180 ih _ hE3 hm3 h
        · exact l_M_makeGroups_112 ih _ _ _ _ hE3 hm3 h
theorem l_M_makeGroups_53 (x1 : Int32) {t0 s0 : g_St} {o : Unit × g_St} (hE : z_M t0 s0) (hm : m_Fix s0) (h : f_M_makeGroups_53 (some 1) x1 s0 = some o) : ∃ o', f_M_makeGroups_53 (some 1) x1 t0 = some o' ∧ o'.1 = o.1 ∧ z_M o'.2 o.2 := by
  unfold f_M_makeGroups_53 at h
  unfold f_M_makeGroups_53
  refine lc_c h (fun q hq => lc_nn (l_M_first _ hE hm (er_nn hq))) (fun i1 s2 t2 hc hE1 h => ?_)
  have hm1 := (w_M_first _ _ hm (er_nn hc)).fx hm
  exact l_M_makeGroups_59 _ _ _ hE1 hm1 h
theorem l_M_makeGroups_9 : ∀ (n : Nat) (x1 : Int32) (x2 : Int32) (x3 : Int32) {t0 s0 : g_St} {o : Unit × g_St}, z_M t0 s0 → m_Fix s0 → f_M_makeGroups_9 n (some 1) x1 x2 x3 s0 = some o → ∃ o', f_M_makeGroups_9 n (some 1) x1 x2 x3 t0 = some o' ∧ o'.1 = o.1 ∧ z_M o'.2 o.2 := by
  intro n
  induction n with
  | zero =>
    intro x1 x2 x3 t0 s0 o hE hm h
    rw [f_M_makeGroups_9] at h
    cases h
  | succ n ih =>
    intro x1 x2 x3 t0 s0 o hE hm h
    rw [f_M_makeGroups_9] at h
    rw [f_M_makeGroups_9]
    refine lc_gR ((hE.fx hm) _ m_k2433).1 (hm _ m_k2433).1 h (fun h => ?_)
    refine lc_aI hE (m_arr_of m_k2433) h (fun i2 h => ?_)
    refine lc_if h (fun h => ?_) (fun h => ?_)
    · refine lc_if h (fun h => ?_) (fun h => ?_)
      · refine lc_c h (fun q hq => lc_nn (l_M_openGroup _ hE hm (er_nn hq))) (fun v1 s4 t4 hc hE1 h => ?_)
        have hm1 := (w_M_openGroup _ _ hm (er_nn hc)).fx hm
        exact l_M_makeGroups_53 _ hE1 hm1 h
      · exact l_M_makeGroups_53 _ hE hm h
    · refine lc_if h (fun h => ?_) (fun h => ?_)
      · refine lc_c h (fun q hq => lc_nn (l_M_kindOf _ _ hE hm (er_nn hq))) (fun i5 s6 t6 hc hE2 h => ?_)
        have hm2 := (w_M_kindOf _ _ _ hm (er_nn hc)).fx hm
        refine lc_if h (fun h => ?_) (fun h => ?_)
        · exact ih _ _ _ hE2 hm2 h
        · exact ih _ _ _ hE2 hm2 h
      · exact ih _ _ _ hE hm h
theorem l_M_makeGroups (x1 : Int32) {t0 s0 : g_St} {o : Unit × g_St} (hE : z_M t0 s0) (hm : m_Fix s0) (h : f_M_makeGroups (some 1) x1 s0 = some o) : ∃ o', f_M_makeGroups (some 1) x1 t0 = some o' ∧ o'.1 = o.1 ∧ z_M o'.2 o.2 := by
  unfold f_M_makeGroups at h
  unfold f_M_makeGroups
  refine lc_pI h (fun h => ?_)
  have hE1 := hE.pI 6337 0
  have hm1 := m_setI 6337 0 hm
  exact l_M_makeGroups_9 _ _ _ _ hE1 hm1 h
theorem l_M_checkGroups_12 {k2 k2' : Option Nat → Int32 → Int32 → g_St → Option (Unit × g_St)} (hk2 : ∀ (y1 : Int32) (y2 : Int32) {t s : g_St} {o : Unit × g_St}, z_M t s → m_Fix s → k2 (some 1) y1 y2 s = some o → ∃ o', k2' (some 1) y1 y2 t = some o' ∧ o'.1 = o.1 ∧ z_M o'.2 o.2) : ∀ (n : Nat) (x1 : Int32) (x2 : Int32) (x3 : Int32) {t0 s0 : g_St} {o : Unit × g_St}, z_M t0 s0 → m_Fix s0 → f_M_checkGroups_12 k2 n (some 1) x1 x2 x3 s0 = some o → ∃ o', f_M_checkGroups_12 k2' n (some 1) x1 x2 x3 t0 = some o' ∧ o'.1 = o.1 ∧ z_M o'.2 o.2 := by
  intro n
  induction n with
  | zero =>
    intro x1 x2 x3 t0 s0 o hE hm h
    rw [f_M_checkGroups_12] at h
    cases h
  | succ n ih =>
    intro x1 x2 x3 t0 s0 o hE hm h
    rw [f_M_checkGroups_12] at h
    rw [f_M_checkGroups_12]
    refine lc_gR ((hE.fx hm) _ m_k2433).1 (hm _ m_k2433).1 h (fun h => ?_)
    refine lc_aI hE (m_arr_of m_k2433) h (fun i2 h => ?_)
    refine lc_if h (fun h => ?_) (fun h => ?_)
    · exact hk2 _ _ hE hm h
    · refine lc_c h (fun q hq => lc_nn (l_M_kindOf _ _ hE hm (er_nn hq))) (fun i3 s4 t4 hc hE1 h => ?_)
      have hm1 := (w_M_kindOf _ _ _ hm (er_nn hc)).fx hm
      refine lc_if h (fun h => ?_) (fun h => ?_)
      · exact ih _ _ _ hE1 hm1 h
      · refine lc_gR ((hE1.fx hm1) _ m_k6465).1 (hm1 _ m_k6465).1 h (fun h => ?_)
        refine lc_aL hE1 (m_arr_of m_k6465) h (fun j6 h => ?_)
        refine lc_if h (fun h => ?_) (fun h => ?_)
        · exact ih _ _ _ hE1 hm1 h
        · refine lc_gR ((hE1.fx hm1) _ m_k6401).1 (hm1 _ m_k6401).1 h (fun h => ?_)
          refine lc_aL hE1 (m_arr_of m_k6401) h (fun j8 h => ?_)
          refine lc_c h (fun q hq => l_M_isInt _ hE1 hm1 hq) (fun i9 s10 t10 hc hE2 h => ?_)
          have hm2 := (w_M_isInt _ _ hm1 hc).fx hm1
          refine lc_if h (fun h => ?_) (fun h => ?_)
          · refine lc_pI h (fun h => ?_)
            have hE3 := hE2.pI 1 3
            have hm3 := m_setI 1 3 hm2
            exact ih _ _ _ hE3 hm3 h
          · exact ih _ _ _ hE2 hm2 h
theorem l_M_checkGroups_2 : ∀ (n : Nat) (x1 : Int32) (x2 : Int32) {t0 s0 : g_St} {o : Unit × g_St}, z_M t0 s0 → m_Fix s0 → f_M_checkGroups_2 n (some 1) x1 x2 s0 = some o → ∃ o', f_M_checkGroups_2 n (some 1) x1 x2 t0 = some o' ∧ o'.1 = o.1 ∧ z_M o'.2 o.2 := by
  intro n
  induction n with
  | zero =>
    intro x1 x2 t0 s0 o hE hm h
    rw [f_M_checkGroups_2] at h
    cases h
  | succ n ih =>
    intro x1 x2 t0 s0 o hE hm h
    rw [f_M_checkGroups_2] at h
    rw [f_M_checkGroups_2]
    refine lc_gI hE (by decide) h (fun i1 h => ?_)
    refine lc_if h (fun h => ?_) (fun h => ?_)
    · exact lc_some hE h
    · exact l_M_checkGroups_12 ih _ _ _ _ hE hm h
theorem l_M_checkGroups (x1 : Int32) {t0 s0 : g_St} {o : Unit × g_St} (hE : z_M t0 s0) (hm : m_Fix s0) (h : f_M_checkGroups (some 1) x1 s0 = some o) : ∃ o', f_M_checkGroups (some 1) x1 t0 = some o' ∧ o'.1 = o.1 ∧ z_M o'.2 o.2 := by
  unfold f_M_checkGroups at h
  unfold f_M_checkGroups
  exact l_M_checkGroups_2 _ _ _ hE hm h
theorem l_M_bringAnswer_79 : ∀ (n : Nat) (x3 : Int32) {t0 s0 : g_St} {o : Unit × g_St}, z_M t0 s0 → m_Fix s0 → f_M_bringAnswer_79 n (some 1) x3 s0 = some o → ∃ o', f_M_bringAnswer_79 n (some 1) x3 t0 = some o' ∧ o'.1 = o.1 ∧ z_M o'.2 o.2 := by
  intro n
  induction n with
  | zero =>
    intro x3 t0 s0 o hE hm h
    rw [f_M_bringAnswer_79] at h
    cases h
  | succ n ih =>
    intro x3 t0 s0 o hE hm h
    rw [f_M_bringAnswer_79] at h
    rw [f_M_bringAnswer_79]
    refine lc_gI hE (by decide) h (fun i1 h => ?_)
    refine lc_if h (fun h => ?_) (fun h => ?_)
    · refine lc_gI hE (by decide) h (fun i2 h => ?_)
      refine lc_pI h (fun h => ?_)
      have hE1 := hE.pI 5377 (i2 + 1)
      have hm1 := m_setI 5377 (i2 + 1) hm
      exact lc_some hE1 h
    · refine lc_gR ((hE.fx hm) _ m_k6273).1 (hm _ m_k6273).1 h (fun h => ?_)
      refine lc_gR ((hE.fx hm) _ m_k4545).1 (hm _ m_k4545).1 h (fun h => ?_)
      refine lc_aI hE (m_arr_of m_k4545) h (fun i6 h => ?_)
      refine lc_aI hE (m_arr_of m_k6273) h (fun i7 h => ?_)
      refine lc_gR ((hE.fx hm) _ m_k5569).1 (hm _ m_k5569).1 h (fun h => ?_)
      refine lc_gI hE (by decide) h (fun i9 h => ?_)
      refine lc_gR ((hE.fx hm) _ m_k4609).1 (hm _ m_k4609).1 h (fun h => ?_)
      refine lc_aI hE (m_arr_of m_k4609) h (fun i11 h => ?_)
      refine lc_if h (fun h => ?_) (fun h => ?_)
      · refine lc_sL hE (m_arr_of m_k5569) h (fun j2 h => ?_)
        have hE2 := hE.sL 1045 j2 ((i7 - 100).toInt64)
        have hm2 := m_setAL 1045 j2 ((i7 - 100).toInt64) hm
        exact ih _ hE2 hm2 h
      · refine lc_gR ((hE.fx hm) _ m_k4609).1 (hm _ m_k4609).1 h (fun h => ?_)
        refine lc_aI hE (m_arr_of m_k4609) h (fun i13 h => ?_)
        refine lc_c h (fun q hq => lc_nn (l_M_cellOf _ _ hE hm (er_nn hq))) (fun j14 s15 t15 hc hE3 h => ?_)
        have hm3 := (w_M_cellOf _ _ _ hm (er_nn hc)).fx hm
        refine lc_sL hE3 (m_arr_of m_k5569) h (fun j4 h => ?_)
        have hE4 := hE3.sL 1045 j4 j14
        have hm4 := m_setAL 1045 j4 j14 hm3
        exact ih _ hE4 hm4 h
theorem l_M_bringAnswer_24 : ∀ (n : Nat) (x1 : Int32) (x2 : Int32) (x3 : Int32) {t0 s0 : g_St} {o : Unit × g_St}, z_M t0 s0 → m_Fix s0 → f_M_bringAnswer_24 n (some 1) x1 x2 x3 s0 = some o → ∃ o', f_M_bringAnswer_24 n (some 1) x1 x2 x3 t0 = some o' ∧ o'.1 = o.1 ∧ z_M o'.2 o.2 := by
  intro n
  induction n with
  | zero =>
    intro x1 x2 x3 t0 s0 o hE hm h
    rw [f_M_bringAnswer_24] at h
    cases h
  | succ n ih =>
    intro x1 x2 x3 t0 s0 o hE hm h
    rw [f_M_bringAnswer_24] at h
    rw [f_M_bringAnswer_24]
    refine lc_gR ((hE.fx hm) _ m_k2433).1 (hm _ m_k2433).1 h (fun h => ?_)
    refine lc_aI hE (m_arr_of m_k2433) h (fun i2 h => ?_)
    refine lc_if h (fun h => ?_) (fun h => ?_)
    · exact l_M_bringAnswer_79 _ _ hE hm h
    · refine lc_gR ((hE.fx hm) _ m_k5505).1 (hm _ m_k5505).1 h (fun h => ?_)
      refine lc_gI hE (by decide) h (fun i4 h => ?_)
      refine lc_if h (fun h => ?_) (fun h => ?_)
      · refine lc_c h (fun q hq => lc_nn (l_M_itemOf _ _ hE hm (er_nn hq))) (fun j8 s9 t9 hc hE1 h => ?_)
        have hm1 := (w_M_itemOf _ _ _ hm (er_nn hc)).fx hm
        refine lc_sL hE1 (m_arr_of m_k5505) h (fun j2 h => ?_)
        have hE2 := hE1.sL 981 j2 j8
        have hm2 := m_setAL 981 j2 j8 hm1
        exact ih _ _ _ hE2 hm2 h
      · refine lc_gR ((hE.fx hm) _ m_k6401).1 (hm _ m_k6401).1 h (fun h => ?_)
        refine lc_aL hE (m_arr_of m_k6401) h (fun j6 h => ?_)
        refine lc_sL hE (m_arr_of m_k5505) h (fun j3 h => ?_)
        have hE3 := hE.sL 981 j3 j6
        have hm3 := m_setAL 981 j3 j6 hm
        exact ih _ _ _ hE3 hm3 h
theorem l_M_bringAnswer (x1 : Int32) (x2 : Int32) {t0 s0 : g_St} {o : Unit × g_St} (hE : z_M t0 s0) (hm : m_Fix s0) (h : f_M_bringAnswer (some 1) x1 x2 s0 = some o) : ∃ o', f_M_bringAnswer (some 1) x1 x2 t0 = some o' ∧ o'.1 = o.1 ∧ z_M o'.2 o.2 := by
  unfold f_M_bringAnswer at h
  unfold f_M_bringAnswer
  refine lc_gI hE (by decide) h (fun i1 h => ?_)
  refine lc_gI hE (by decide) h (fun i2 h => ?_)
  refine lc_gI hE (by decide) h (fun i3 h => ?_)
  refine lc_if h (fun h => ?_) (fun h => ?_)
  · refine lc_pI h (fun h => ?_)
    have hE1 := hE.pI 1 4
    have hm1 := m_setI 1 4 hm
    exact lc_some hE1 h
  · exact l_M_bringAnswer_24 _ _ _ _ hE hm h
theorem l_M_parent_5 : ∀ (n : Nat) (x1 : Int32) (x2 : Int32) (x3 : Int32) (x4 : Int32) {t0 s0 : g_St} {o : Int32 × g_St}, z_M t0 s0 → m_Fix s0 → f_M_parent_5 n (some 1) x1 x2 x3 x4 s0 = some o → ∃ o', f_M_parent_5 n (some 1) x1 x2 x3 x4 t0 = some o' ∧ o'.1 = o.1 ∧ z_M o'.2 o.2 := by
  intro n
  induction n with
  | zero =>
    intro x1 x2 x3 x4 t0 s0 o hE hm h
    rw [f_M_parent_5] at h
    cases h
  | succ n ih =>
    intro x1 x2 x3 x4 t0 s0 o hE hm h
    rw [f_M_parent_5] at h
    rw [f_M_parent_5]
    refine lc_gR ((hE.fx hm) _ m_k2561).1 (hm _ m_k2561).1 h (fun h => ?_)
    refine lc_aI hE (m_arr_of m_k2561) h (fun i2 h => ?_)
    refine lc_if h (fun h => ?_) (fun h => ?_)
    · exact lc_some hE h
    · refine lc_gR ((hE.fx hm) _ m_k3777).1 (hm _ m_k3777).1 h (fun h => ?_)
      refine lc_gR ((hE.fx hm) _ m_k2497).1 (hm _ m_k2497).1 h (fun h => ?_)
      refine lc_aI hE (m_arr_of m_k2497) h (fun i5 h => ?_)
      refine lc_aI hE (m_arr_of m_k3777) h (fun i6 h => ?_)
      refine lc_if h (fun h => ?_) (fun h => ?_)
      · refine lc_gR ((hE.fx hm) _ m_k6273).1 (hm _ m_k6273).1 h (fun h => ?_)
        refine lc_aI hE (m_arr_of m_k6273) h (fun i8 h => ?_)
        exact ih _ _ _ _ hE hm h
      · exact ih _ _ _ _ hE hm h
theorem l_M_parent (x1 : Int32) (x2 : Int32) {t0 s0 : g_St} {o : Int32 × g_St} (hE : z_M t0 s0) (hm : m_Fix s0) (h : f_M_parent (some 1) x1 x2 s0 = some o) : ∃ o', f_M_parent (some 1) x1 x2 t0 = some o' ∧ o'.1 = o.1 ∧ z_M o'.2 o.2 := by
  unfold f_M_parent at h
  unfold f_M_parent
  exact l_M_parent_5 _ _ _ _ _ hE hm h
theorem l_M_lengthen_196 : ∀ (n : Nat) (x2 : Int32) (x3 : Int32) (x4 : Int32) (y5 : Int64) (y7 : Int64) (x9 : Int32) {t0 s0 : g_St} {o : Unit × g_St}, z_M t0 s0 → m_Fix s0 → f_M_lengthen_196 n (some 1) x2 x3 x4 y5 y7 x9 s0 = some o → ∃ o', f_M_lengthen_196 n (some 1) x2 x3 x4 y5 y7 x9 t0 = some o' ∧ o'.1 = o.1 ∧ z_M o'.2 o.2 := by
  intro n
  induction n with
  | zero =>
    intro x2 x3 x4 y5 y7 x9 t0 s0 o hE hm h
    rw [f_M_lengthen_196] at h
    cases h
  | succ n ih =>
    intro x2 x3 x4 y5 y7 x9 t0 s0 o hE hm h
    rw [f_M_lengthen_196] at h
    rw [f_M_lengthen_196]
    refine lc_if h (fun h => ?_) (fun h => ?_)
    · refine lc_gR ((hE.fx hm) _ m_k5313).1 (hm _ m_k5313).1 h (fun h => ?_)
      refine lc_gI hE (by decide) h (fun i2 h => ?_)
      refine lc_sL hE (m_arr_of m_k5313) h (fun j1 h => ?_)
      have hE1 := hE.sL 917 j1 y5
      have hm1 := m_setAL 917 j1 y5 hm
      refine lc_gR ((hE1.fx hm1) _ m_k5249).1 (hm1 _ m_k5249).1 h (fun h => ?_)
      refine lc_gI hE1 (by decide) h (fun i5 h => ?_)
      refine lc_sI hE1 (m_arr_of m_k5249) h (fun j2 h => ?_)
      have hE2 := hE1.sI 4244 j2 (x4 + 1)
      have hm2 := m_setAI 4244 j2 (x4 + 1) hm1
      refine lc_gR ((hE2.fx hm2) _ m_k5057).1 (hm2 _ m_k5057).1 h (fun h => ?_)
      refine lc_gI hE2 (by decide) h (fun i8 h => ?_)
      refine lc_gR ((hE2.fx hm2) _ m_k1281).1 (hm2 _ m_k1281).1 h (fun h => ?_)
      refine lc_aI hE2 (m_arr_of m_k1281) h (fun i10 h => ?_)
      refine lc_sL hE2 (m_arr_of m_k5057) h (fun j3 h => ?_)
      have hE3 := hE2.sL 789 j3 y7
      have hm3 := m_setAL 789 j3 y7 hm2
      exact lc_some hE3 h
    · refine lc_gR ((hE.fx hm) _ m_k5313).1 (hm _ m_k5313).1 h (fun h => ?_)
      refine lc_gI hE (by decide) h (fun i13 h => ?_)
      refine lc_gR ((hE.fx hm) _ m_k5313).1 (hm _ m_k5313).1 h (fun h => ?_)
      refine lc_aL hE (m_arr_of m_k5313) h (fun j15 h => ?_)
      refine lc_sL hE (m_arr_of m_k5313) h (fun j4 h => ?_)
      have hE4 := hE.sL 917 j4 j15
      have hm4 := m_setAL 917 j4 j15 hm
      refine lc_if h (fun h => ?_) (fun h => ?_)
      · exact ih _ _ _ _ _ _ hE4 hm4 h
      · refine lc_gR ((hE4.fx hm4) _ m_k5313).1 (hm4 _ m_k5313).1 h (fun h => ?_)
        refine lc_aL hE4 (m_arr_of m_k5313) h (fun j18 h => ?_)
        refine lc_if h (fun h => ?_) (fun h => ?_)
        · exact ih _ _ _ _ _ _ hE4 hm4 h
        · exact ih _ _ _ _ _ _ hE4 hm4 h
theorem l_M_lengthen_168 (x2 : Int32) (x3 : Int32) (x0s : Int32) {t0 s0 : g_St} {o : Unit × g_St} (hE : z_M t0 s0) (hm : m_Fix s0) (h : f_M_lengthen_168 (some 1) x2 x3 x0s s0 = some o) : ∃ o', f_M_lengthen_168 (some 1) x2 x3 x0s t0 = some o' ∧ o'.1 = o.1 ∧ z_M o'.2 o.2 := by
  unfold f_M_lengthen_168 at h
  unfold f_M_lengthen_168
  refine lc_gR ((hE.fx hm) _ m_k5057).1 (hm _ m_k5057).1 h (fun h => ?_)
  refine lc_gI hE (by decide) h (fun i2 h => ?_)
  refine lc_gR ((hE.fx hm) _ m_k1793).1 (hm _ m_k1793).1 h (fun h => ?_)
  refine lc_aI hE (m_arr_of m_k1793) h (fun i4 h => ?_)
  refine lc_aL hE (m_arr_of m_k5057) h (fun j5 h => ?_)
  exact l_M_lengthen_196 _ _ _ _ _ _ _ hE hm h
theorem l_M_lengthen_142 (x2 : Int32) (x3 : Int32) {t0 s0 : g_St} {o : Unit × g_St} (hE : z_M t0 s0) (hm : m_Fix s0) (h : f_M_lengthen_142 (some 1) x2 x3 s0 = some o) : ∃ o', f_M_lengthen_142 (some 1) x2 x3 t0 = some o' ∧ o'.1 = o.1 ∧ z_M o'.2 o.2 := by
  unfold f_M_lengthen_142 at h
  unfold f_M_lengthen_142
  refine lc_gR ((hE.fx hm) _ m_k1601).1 (hm _ m_k1601).1 h (fun h => ?_)
  refine lc_aI hE (m_arr_of m_k1601) h (fun i2 h => ?_)
  refine lc_if h (fun h => ?_) (fun h => ?_)
  · exact lc_some hE h
  · refine lc_if h (fun h => ?_) (fun h => ?_)
    · exact l_M_lengthen_168 _ _ _ hE hm h
    · refine lc_gR ((hE.fx hm) _ m_k5249).1 (hm _ m_k5249).1 h (fun h => ?_)
      refine lc_aI hE (m_arr_of m_k5249) h (fun i4 h => ?_)
      exact l_M_lengthen_168 _ _ _ hE hm h
theorem l_M_lengthen_56 : ∀ (n : Nat) (x2 : Int32) (x3 : Int32) (x4 : Int32) (x5 : Int32) {t0 s0 : g_St} {o : Unit × g_St}, z_M t0 s0 → m_Fix s0 → f_M_lengthen_56 n (some 1) x2 x3 x4 x5 s0 = some o → ∃ o', f_M_lengthen_56 n (some 1) x2 x3 x4 x5 t0 = some o' ∧ o'.1 = o.1 ∧ z_M o'.2 o.2 := by
  intro n
  induction n with
  | zero =>
    intro x2 x3 x4 x5 t0 s0 o hE hm h
    rw [f_M_lengthen_56] at h
    cases h
  | succ n ih =>
    intro x2 x3 x4 x5 t0 s0 o hE hm h
    rw [f_M_lengthen_56] at h
    rw [f_M_lengthen_56]
    refine lc_if h (fun h => ?_) (fun h => ?_)
    · refine lc_gR ((hE.fx hm) _ m_k5185).1 (hm _ m_k5185).1 h (fun h => ?_)
      refine lc_gI hE (by decide) h (fun i2 h => ?_)
      refine lc_gR ((hE.fx hm) _ m_k5057).1 (hm _ m_k5057).1 h (fun h => ?_)
      refine lc_gI hE (by decide) h (fun i4 h => ?_)
      refine lc_gR ((hE.fx hm) _ m_k1729).1 (hm _ m_k1729).1 h (fun h => ?_)
      refine lc_aI hE (m_arr_of m_k1729) h (fun i6 h => ?_)
      refine lc_aL hE (m_arr_of m_k5057) h (fun j7 h => ?_)
      refine lc_sL hE (m_arr_of m_k5185) h (fun j1 h => ?_)
      have hE1 := hE.sL 853 j1 j7
      have hm1 := m_setAL 853 j1 j7 hm
      refine lc_gR ((hE1.fx hm1) _ m_k5121).1 (hm1 _ m_k5121).1 h (fun h => ?_)
      refine lc_gI hE1 (by decide) h (fun i10 h => ?_)
      refine lc_sI hE1 (m_arr_of m_k5121) h (fun j2 h => ?_)
      have hE2 := hE1.sI 4180 j2 (x4 + 1)
      have hm2 := m_setAI 4180 j2 (x4 + 1) hm1
      exact l_M_lengthen_142 _ _ hE2 hm2 h
    · refine lc_gR ((hE.fx hm) _ m_k5185).1 (hm _ m_k5185).1 h (fun h => ?_)
      refine lc_gI hE (by decide) h (fun i13 h => ?_)
      refine lc_gR ((hE.fx hm) _ m_k5185).1 (hm _ m_k5185).1 h (fun h => ?_)
      refine lc_aL hE (m_arr_of m_k5185) h (fun j15 h => ?_)
      refine lc_sL hE (m_arr_of m_k5185) h (fun j3 h => ?_)
      have hE3 := hE.sL 853 j3 j15
      have hm3 := m_setAL 853 j3 j15 hm
      exact ih _ _ _ _ hE3 hm3 h
theorem l_M_lengthen_20 (x1 : Int32) (x2 : Int32) {t0 s0 : g_St} {o : Unit × g_St} (hE : z_M t0 s0) (hm : m_Fix s0) (h : f_M_lengthen_20 (some 1) x1 x2 s0 = some o) : ∃ o', f_M_lengthen_20 (some 1) x1 x2 t0 = some o' ∧ o'.1 = o.1 ∧ z_M o'.2 o.2 := by
  unfold f_M_lengthen_20 at h
  unfold f_M_lengthen_20
  refine lc_c h (fun q hq => lc_nn (l_M_parent _ _ hE hm (er_nn hq))) (fun i1 s2 t2 hc hE1 h => ?_)
  have hm1 := (w_M_parent _ _ _ hm (er_nn hc)).fx hm
  refine lc_gR ((hE1.fx hm1) _ m_k1409).1 (hm1 _ m_k1409).1 h (fun h => ?_)
  refine lc_aI hE1 (m_arr_of m_k1409) h (fun i4 h => ?_)
  refine lc_if h (fun h => ?_) (fun h => ?_)
  · exact l_M_lengthen_142 _ _ hE1 hm1 h
  · refine lc_if h (fun h => ?_) (fun h => ?_)
    · exact l_M_lengthen_56 _ _ _ _ _ hE1 hm1 h
    · refine lc_gR ((hE1.fx hm1) _ m_k5121).1 (hm1 _ m_k5121).1 h (fun h => ?_)
      refine lc_aI hE1 (m_arr_of m_k5121) h (fun i6 h => ?_)
      exact l_M_lengthen_56 _ _ _ _ _ hE1 hm1 h
theorem l_M_lengthen (x1 : Int32) (x2 : Int32) {t0 s0 : g_St} {o : Unit × g_St} (hE : z_M t0 s0) (hm : m_Fix s0) (h : f_M_lengthen (some 1) x1 x2 s0 = some o) : ∃ o', f_M_lengthen (some 1) x1 x2 t0 = some o' ∧ o'.1 = o.1 ∧ z_M o'.2 o.2 := by
  unfold f_M_lengthen at h
  unfold f_M_lengthen
  refine lc_gR ((hE.fx hm) _ m_k1409).1 (hm _ m_k1409).1 h (fun h => ?_)
  refine lc_aI hE (m_arr_of m_k1409) h (fun i2 h => ?_)
  refine lc_if h (fun h => ?_) (fun h => ?_)
  · refine lc_gR ((hE.fx hm) _ m_k1601).1 (hm _ m_k1601).1 h (fun h => ?_)
    refine lc_aI hE (m_arr_of m_k1601) h (fun i4 h => ?_)
    refine lc_if h (fun h => ?_) (fun h => ?_)
    · exact lc_some hE h
    · exact l_M_lengthen_20 _ _ hE hm h
  · exact l_M_lengthen_20 _ _ hE hm h
theorem l_M_isAlike_219 : ∀ (n : Nat) (x2 : Int32) (x4 : Int32) (x6 : Int32) {t0 s0 : g_St} {o : Int32 × g_St}, z_M t0 s0 → m_Fix s0 → f_M_isAlike_219 n (some 1) x2 x4 x6 s0 = some o → ∃ o', f_M_isAlike_219 n (some 1) x2 x4 x6 t0 = some o' ∧ o'.1 = o.1 ∧ z_M o'.2 o.2 := by
  intro n
  induction n with
  | zero =>
    intro x2 x4 x6 t0 s0 o hE hm h
    rw [f_M_isAlike_219] at h
    cases h
  | succ n ih =>
    intro x2 x4 x6 t0 s0 o hE hm h
    rw [f_M_isAlike_219] at h
    rw [f_M_isAlike_219]
    refine lc_gR ((hE.fx hm) _ m_k5249).1 (hm _ m_k5249).1 h (fun h => ?_)
    refine lc_gI hE (by decide) h (fun i2 h => ?_)
    refine lc_aI hE (m_arr_of m_k5249) h (fun i3 h => ?_)
    refine lc_if h (fun h => ?_) (fun h => ?_)
    · exact lc_rZ h (fun h => lc_some hE h)
    · refine lc_if h (fun h => ?_) (fun h => ?_)
      · exact lc_rZ h (fun h => lc_some hE h)
      · refine lc_gR ((hE.fx hm) _ m_k5313).1 (hm _ m_k5313).1 h (fun h => ?_)
        refine lc_aL hE (m_arr_of m_k5313) h (fun j5 h => ?_)
        refine lc_gR ((hE.fx hm) _ m_k5313).1 (hm _ m_k5313).1 h (fun h => ?_)
        refine lc_gI hE (by decide) h (fun i7 h => ?_)
        refine lc_aL hE (m_arr_of m_k5313) h (fun j8 h => ?_)
        refine lc_if h (fun h => ?_) (fun h => ?_)
        · exact ih _ _ _ hE hm h
        · exact ih _ _ _ hE hm h
theorem l_M_isAlike_153 : ∀ (n : Nat) (x2 : Int32) (x4 : Int32) (x6 : Int32) {t0 s0 : g_St} {o : Int32 × g_St}, z_M t0 s0 → m_Fix s0 → f_M_isAlike_153 n (some 1) x2 x4 x6 s0 = some o → ∃ o', f_M_isAlike_153 n (some 1) x2 x4 x6 t0 = some o' ∧ o'.1 = o.1 ∧ z_M o'.2 o.2 := by
  intro n
  induction n with
  | zero =>
    intro x2 x4 x6 t0 s0 o hE hm h
    rw [f_M_isAlike_153] at h
    cases h
  | succ n ih =>
    intro x2 x4 x6 t0 s0 o hE hm h
    rw [f_M_isAlike_153] at h
    rw [f_M_isAlike_153]
    refine lc_gR ((hE.fx hm) _ m_k5121).1 (hm _ m_k5121).1 h (fun h => ?_)
    refine lc_gI hE (by decide) h (fun i2 h => ?_)
    refine lc_aI hE (m_arr_of m_k5121) h (fun i3 h => ?_)
    refine lc_if h (fun h => ?_) (fun h => ?_)
    · exact l_M_isAlike_219 _ _ _ _ hE hm h
    · refine lc_if h (fun h => ?_) (fun h => ?_)
      · exact l_M_isAlike_219 _ _ _ _ hE hm h
      · refine lc_gR ((hE.fx hm) _ m_k5185).1 (hm _ m_k5185).1 h (fun h => ?_)
        refine lc_aL hE (m_arr_of m_k5185) h (fun j5 h => ?_)
        refine lc_gR ((hE.fx hm) _ m_k5185).1 (hm _ m_k5185).1 h (fun h => ?_)
        refine lc_gI hE (by decide) h (fun i7 h => ?_)
        refine lc_aL hE (m_arr_of m_k5185) h (fun j8 h => ?_)
        refine lc_if h (fun h => ?_) (fun h => ?_)
        · exact ih _ _ _ hE hm h
        · exact ih _ _ _ hE hm h
theorem l_M_isAlike_122 (x1 : Int32) (x2 : Int32) (x4 : Int32) {t0 s0 : g_St} {o : Int32 × g_St} (hE : z_M t0 s0) (hm : m_Fix s0) (h : f_M_isAlike_122 (some 1) x1 x2 x4 s0 = some o) : ∃ o', f_M_isAlike_122 (some 1) x1 x2 x4 t0 = some o' ∧ o'.1 = o.1 ∧ z_M o'.2 o.2 := by
  unfold f_M_isAlike_122 at h
  unfold f_M_isAlike_122
  refine lc_gR ((hE.fx hm) _ m_k1409).1 (hm _ m_k1409).1 h (fun h => ?_)
  refine lc_aI hE (m_arr_of m_k1409) h (fun i2 h => ?_)
  refine lc_if h (fun h => ?_) (fun h => ?_)
  · refine lc_gR ((hE.fx hm) _ m_k5121).1 (hm _ m_k5121).1 h (fun h => ?_)
    refine lc_gI hE (by decide) h (fun i4 h => ?_)
    refine lc_aI hE (m_arr_of m_k5121) h (fun i5 h => ?_)
    exact l_M_isAlike_153 _ _ _ _ hE hm h
  · exact l_M_isAlike_153 _ _ _ _ hE hm h
theorem l_M_isAlike_69 : ∀ (n : Nat) (x1 : Int32) (x2 : Int32) (x3 : Int32) (x4 : Int32) (x5 : Int32) {t0 s0 : g_St} {o : Int32 × g_St}, z_M t0 s0 → m_Fix s0 → f_M_isAlike_69 n (some 1) x1 x2 x3 x4 x5 s0 = some o → ∃ o', f_M_isAlike_69 n (some 1) x1 x2 x3 x4 x5 t0 = some o' ∧ o'.1 = o.1 ∧ z_M o'.2 o.2 := by
  intro n
  induction n with
  | zero =>
    intro x1 x2 x3 x4 x5 t0 s0 o hE hm h
    rw [f_M_isAlike_69] at h
    cases h
  | succ n ih =>
    intro x1 x2 x3 x4 x5 t0 s0 o hE hm h
    rw [f_M_isAlike_69] at h
    rw [f_M_isAlike_69]
    refine lc_if h (fun h => ?_) (fun h => ?_)
    · exact l_M_isAlike_122 _ _ _ hE hm h
    · refine lc_if h (fun h => ?_) (fun h => ?_)
      · exact l_M_isAlike_122 _ _ _ hE hm h
      · refine lc_gR ((hE.fx hm) _ m_k5057).1 (hm _ m_k5057).1 h (fun h => ?_)
        refine lc_aL hE (m_arr_of m_k5057) h (fun j2 h => ?_)
        refine lc_gR ((hE.fx hm) _ m_k5057).1 (hm _ m_k5057).1 h (fun h => ?_)
        refine lc_gI hE (by decide) h (fun i4 h => ?_)
        refine lc_aL hE (m_arr_of m_k5057) h (fun j5 h => ?_)
        refine lc_if h (fun h => ?_) (fun h => ?_)
        · exact ih _ _ _ _ _ hE hm h
        · exact ih _ _ _ _ _ hE hm h
theorem l_M_isAlike_21 (x1 : Int32) (x2 : Int32) (x0s : Int32) (x1s : Int32) {t0 s0 : g_St} {o : Int32 × g_St} (hE : z_M t0 s0) (hm : m_Fix s0) (h : f_M_isAlike_21 (some 1) x1 x2 x0s x1s s0 = some o) : ∃ o', f_M_isAlike_21 (some 1) x1 x2 x0s x1s t0 = some o' ∧ o'.1 = o.1 ∧ z_M o'.2 o.2 := by
  unfold f_M_isAlike_21 at h
  unfold f_M_isAlike_21
  refine lc_gR ((hE.fx hm) _ m_k5121).1 (hm _ m_k5121).1 h (fun h => ?_)
  refine lc_aI hE (m_arr_of m_k5121) h (fun i2 h => ?_)
  refine lc_gR ((hE.fx hm) _ m_k5121).1 (hm _ m_k5121).1 h (fun h => ?_)
  refine lc_gI hE (by decide) h (fun i4 h => ?_)
  refine lc_aI hE (m_arr_of m_k5121) h (fun i5 h => ?_)
  refine lc_if h (fun h => ?_) (fun h => ?_)
  · refine lc_gR ((hE.fx hm) _ m_k5249).1 (hm _ m_k5249).1 h (fun h => ?_)
    refine lc_aI hE (m_arr_of m_k5249) h (fun i7 h => ?_)
    refine lc_gR ((hE.fx hm) _ m_k5249).1 (hm _ m_k5249).1 h (fun h => ?_)
    refine lc_gI hE (by decide) h (fun i9 h => ?_)
    refine lc_aI hE (m_arr_of m_k5249) h (fun i10 h => ?_)
    refine lc_if h (fun h => ?_) (fun h => ?_)
    · exact l_M_isAlike_69 _ _ _ _ _ _ hE hm h
    · exact l_M_isAlike_69 _ _ _ _ _ _ hE hm h
  · exact l_M_isAlike_69 _ _ _ _ _ _ hE hm h
theorem l_M_isAlike (x1 : Int32) (x2 : Int32) {t0 s0 : g_St} {o : Int32 × g_St} (hE : z_M t0 s0) (hm : m_Fix s0) (h : f_M_isAlike (some 1) x1 x2 s0 = some o) : ∃ o', f_M_isAlike (some 1) x1 x2 t0 = some o' ∧ o'.1 = o.1 ∧ z_M o'.2 o.2 := by
  unfold f_M_isAlike at h
  unfold f_M_isAlike
  refine lc_gR ((hE.fx hm) _ m_k1281).1 (hm _ m_k1281).1 h (fun h => ?_)
  refine lc_aI hE (m_arr_of m_k1281) h (fun i2 h => ?_)
  refine lc_gR ((hE.fx hm) _ m_k1601).1 (hm _ m_k1601).1 h (fun h => ?_)
  refine lc_aI hE (m_arr_of m_k1601) h (fun i4 h => ?_)
  refine lc_if h (fun h => ?_) (fun h => ?_)
  · exact l_M_isAlike_21 _ _ _ _ hE hm h
  · exact l_M_isAlike_21 _ _ _ _ hE hm h
theorem l_M_isThere_4 : ∀ (n : Nat) (x1 : Int32) (x2 : Int32) (x3 : Int32) {t0 s0 : g_St} {o : Int32 × g_St}, z_M t0 s0 → m_Fix s0 → f_M_isThere_4 n (some 1) x1 x2 x3 s0 = some o → ∃ o', f_M_isThere_4 n (some 1) x1 x2 x3 t0 = some o' ∧ o'.1 = o.1 ∧ z_M o'.2 o.2 := by
  intro n
  induction n with
  | zero =>
    intro x1 x2 x3 t0 s0 o hE hm h
    rw [f_M_isThere_4] at h
    cases h
  | succ n ih =>
    intro x1 x2 x3 t0 s0 o hE hm h
    rw [f_M_isThere_4] at h
    rw [f_M_isThere_4]
    refine lc_gI hE (by decide) h (fun i1 h => ?_)
    refine lc_if h (fun h => ?_) (fun h => ?_)
    · exact lc_rZ h (fun h => lc_some hE h)
    · refine lc_if h (fun h => ?_) (fun h => ?_)
      · refine lc_gR ((hE.fx hm) _ m_k4993).1 (hm _ m_k4993).1 h (fun h => ?_)
        refine lc_aI hE (m_arr_of m_k4993) h (fun i3 h => ?_)
        refine lc_if h (fun h => ?_) (fun h => ?_)
        · refine lc_c h (fun q hq => lc_nn (l_M_isAlike _ _ hE hm (er_nn hq))) (fun i4 s5 t5 hc hE1 h => ?_)
          have hm1 := (w_M_isAlike _ _ _ hm (er_nn hc)).fx hm
          refine lc_if h (fun h => ?_) (fun h => ?_)
          · exact ih _ _ _ hE1 hm1 h
          · exact ih _ _ _ hE1 hm1 h
        · exact ih _ _ _ hE hm h
      · exact lc_rZ h (fun h => lc_some hE h)
theorem l_M_isThere (x1 : Int32) {t0 s0 : g_St} {o : Int32 × g_St} (hE : z_M t0 s0) (hm : m_Fix s0) (h : f_M_isThere (some 1) x1 s0 = some o) : ∃ o', f_M_isThere (some 1) x1 t0 = some o' ∧ o'.1 = o.1 ∧ z_M o'.2 o.2 := by
  unfold f_M_isThere at h
  unfold f_M_isThere
  exact l_M_isThere_4 _ _ _ _ hE hm h
theorem l_M_bring_143  {t0 s0 : g_St} {o : Unit × g_St} (hE : z_M t0 s0) (hm : m_Fix s0) (h : f_M_bring_143 (some 1) s0 = some o) : ∃ o', f_M_bring_143 (some 1) t0 = some o' ∧ o'.1 = o.1 ∧ z_M o'.2 o.2 := by
  unfold f_M_bring_143 at h
  unfold f_M_bring_143
  refine lc_gI hE (by decide) h (fun i1 h => ?_)
  refine lc_gI hE (by decide) h (fun i2 h => ?_)
  refine lc_gI hE (by decide) h (fun i3 h => ?_)
  refine lc_if h (fun h => ?_) (fun h => ?_)
  · refine lc_pI h (fun h => ?_)
    have hE1 := hE.pI 1 4
    have hm1 := m_setI 1 4 hm
    exact lc_some hE1 h
  · refine lc_gI hE (by decide) h (fun i4 h => ?_)
    refine lc_pI h (fun h => ?_)
    have hE2 := hE.pI 4929 (i4 + 1)
    have hm2 := m_setI 4929 (i4 + 1) hm
    exact lc_some hE2 h
theorem l_M_bring_22 : ∀ (n : Nat) (x1 : Int32) (x2 : Int32) (x3 : Int32) (x4 : Int32) {t0 s0 : g_St} {o : Unit × g_St}, z_M t0 s0 → m_Fix s0 → f_M_bring_22 n (some 1) x1 x2 x3 x4 s0 = some o → ∃ o', f_M_bring_22 n (some 1) x1 x2 x3 x4 t0 = some o' ∧ o'.1 = o.1 ∧ z_M o'.2 o.2 := by
  intro n
  induction n with
  | zero =>
    intro x1 x2 x3 x4 t0 s0 o hE hm h
    rw [f_M_bring_22] at h
    cases h
  | succ n ih =>
    intro x1 x2 x3 x4 t0 s0 o hE hm h
    rw [f_M_bring_22] at h
    rw [f_M_bring_22]
    refine lc_gR ((hE.fx hm) _ m_k2433).1 (hm _ m_k2433).1 h (fun h => ?_)
    refine lc_aI hE (m_arr_of m_k2433) h (fun i2 h => ?_)
    refine lc_if h (fun h => ?_) (fun h => ?_)
    · refine lc_gR ((hE.fx hm) _ m_k4993).1 (hm _ m_k4993).1 h (fun h => ?_)
      refine lc_gI hE (by decide) h (fun i4 h => ?_)
      refine lc_sI hE (m_arr_of m_k4993) h (fun j1 h => ?_)
      have hE1 := hE.sI 4116 j1 x3
      have hm1 := m_setAI 4116 j1 x3 hm
      refine lc_gR ((hE1.fx hm1) _ m_k5121).1 (hm1 _ m_k5121).1 h (fun h => ?_)
      refine lc_gI hE1 (by decide) h (fun i7 h => ?_)
      refine lc_sI hE1 (m_arr_of m_k5121) h (fun j2 h => ?_)
      have hE2 := hE1.sI 4180 j2 0
      have hm2 := m_setAI 4180 j2 0 hm1
      refine lc_gR ((hE2.fx hm2) _ m_k5249).1 (hm2 _ m_k5249).1 h (fun h => ?_)
      refine lc_gI hE2 (by decide) h (fun i10 h => ?_)
      refine lc_sI hE2 (m_arr_of m_k5249) h (fun j3 h => ?_)
      have hE3 := hE2.sI 4244 j3 0
      have hm3 := m_setAI 4244 j3 0 hm2
      refine lc_c h (fun q hq => lc_nn (l_M_lengthen _ _ hE3 hm3 (er_nn hq))) (fun v4 s13 t13 hc hE4 h => ?_)
      have hm4 := (w_M_lengthen _ _ _ hm3 (er_nn hc)).fx hm3
      refine lc_gR ((hE4.fx hm4) _ m_k1921).1 (hm4 _ m_k1921).1 h (fun h => ?_)
      refine lc_aI hE4 (m_arr_of m_k1921) h (fun i15 h => ?_)
      refine lc_if h (fun h => ?_) (fun h => ?_)
      · refine lc_gR ((hE4.fx hm4) _ m_k2049).1 (hm4 _ m_k2049).1 h (fun h => ?_)
        refine lc_aI hE4 (m_arr_of m_k2049) h (fun i17 h => ?_)
        refine lc_if h (fun h => ?_) (fun h => ?_)
        · exact l_M_bring_143 hE4 hm4 h
        · refine lc_c h (fun q hq => lc_nn (l_M_isThere _ hE4 hm4 (er_nn hq))) (fun i18 s19 t19 hc hE5 h => ?_)
          have hm5 := (w_M_isThere _ _ hm4 (er_nn hc)).fx hm4
          refine lc_if h (fun h => ?_) (fun h => ?_)
          · exact l_M_bring_143 hE5 hm5 h
          · exact lc_some hE5 h
      · exact l_M_bring_143 hE4 hm4 h
    · refine lc_gR ((hE.fx hm) _ m_k5057).1 (hm _ m_k5057).1 h (fun h => ?_)
      refine lc_gI hE (by decide) h (fun i21 h => ?_)
      refine lc_if h (fun h => ?_) (fun h => ?_)
      · refine lc_c h (fun q hq => lc_nn (l_M_itemOf _ _ hE hm (er_nn hq))) (fun j25 s26 t26 hc hE6 h => ?_)
        have hm6 := (w_M_itemOf _ _ _ hm (er_nn hc)).fx hm
        refine lc_sL hE6 (m_arr_of m_k5057) h (fun j7 h => ?_)
        have hE7 := hE6.sL 789 j7 j25
        have hm7 := m_setAL 789 j7 j25 hm6
        exact ih _ _ _ _ hE7 hm7 h
      · refine lc_gR ((hE.fx hm) _ m_k6401).1 (hm _ m_k6401).1 h (fun h => ?_)
        refine lc_aL hE (m_arr_of m_k6401) h (fun j23 h => ?_)
        refine lc_sL hE (m_arr_of m_k5057) h (fun j8 h => ?_)
        have hE8 := hE.sL 789 j8 j23
        have hm8 := m_setAL 789 j8 j23 hm
        exact ih _ _ _ _ hE8 hm8 h
theorem l_M_bring (x1 : Int32) (x2 : Int32) {t0 s0 : g_St} {o : Unit × g_St} (hE : z_M t0 s0) (hm : m_Fix s0) (h : f_M_bring (some 1) x1 x2 s0 = some o) : ∃ o', f_M_bring (some 1) x1 x2 t0 = some o' ∧ o'.1 = o.1 ∧ z_M o'.2 o.2 := by
  unfold f_M_bring at h
  unfold f_M_bring
  refine lc_gR ((hE.fx hm) _ m_k2241).1 (hm _ m_k2241).1 h (fun h => ?_)
  refine lc_aI hE (m_arr_of m_k2241) h (fun i2 h => ?_)
  refine lc_if h (fun h => ?_) (fun h => ?_)
  · refine lc_c h (fun q hq => lc_nn (l_M_bringAnswer _ _ hE hm (er_nn hq))) (fun v1 s4 t4 hc hE1 h => ?_)
    have hm1 := (w_M_bringAnswer _ _ _ hm (er_nn hc)).fx hm
    exact lc_some hE1 h
  · exact l_M_bring_22 _ _ _ _ _ hE hm h
theorem l_M_workOut_190 {k164 k164' : Option Nat → Int32 → Int32 → g_St → Option (Unit × g_St)} (hk164 : ∀ (y1 : Int32) (y2 : Int32) {t s : g_St} {o : Unit × g_St}, z_M t s → m_Fix s → k164 (some 1) y1 y2 s = some o → ∃ o', k164' (some 1) y1 y2 t = some o' ∧ o'.1 = o.1 ∧ z_M o'.2 o.2) (x1 : Int32) {t0 s0 : g_St} {o : Unit × g_St} (hE : z_M t0 s0) (hm : m_Fix s0) (h : f_M_workOut_190 k164 (some 1) x1 s0 = some o) : ∃ o', f_M_workOut_190 k164' (some 1) x1 t0 = some o' ∧ o'.1 = o.1 ∧ z_M o'.2 o.2 := by
  unfold f_M_workOut_190 at h
  unfold f_M_workOut_190
  refine lc_c h (fun q hq => lc_nn (l_M_next _ hE hm (er_nn hq))) (fun i1 s2 t2 hc hE1 h => ?_)
  have hm1 := (w_M_next _ _ hm (er_nn hc)).fx hm
  exact hk164 _ _ hE1 hm1 h
theorem l_M_workOut_164 : ∀ (n : Nat) (x1 : Int32) (x5 : Int32) {t0 s0 : g_St} {o : Unit × g_St}, z_M t0 s0 → m_Fix s0 → f_M_workOut_164 n (some 1) x1 x5 s0 = some o → ∃ o', f_M_workOut_164 n (some 1) x1 x5 t0 = some o' ∧ o'.1 = o.1 ∧ z_M o'.2 o.2 := by
  intro n
  induction n with
  | zero =>
    intro x1 x5 t0 s0 o hE hm h
    rw [f_M_workOut_164] at h
    cases h
  | succ n ih =>
    intro x1 x5 t0 s0 o hE hm h
    rw [f_M_workOut_164] at h
    rw [f_M_workOut_164]
    refine lc_if h (fun h => ?_) (fun h => ?_)
    · exact lc_some hE h
    · refine lc_gI hE (by decide) h (fun i1 h => ?_)
      refine lc_if h (fun h => ?_) (fun h => ?_)
      · refine lc_c h (fun q hq => lc_nn (l_M_matches _ hE hm (er_nn hq))) (fun i2 s3 t3 hc hE1 h => ?_)
        have hm1 := (w_M_matches _ _ hm (er_nn hc)).fx hm
        refine lc_if h (fun h => ?_) (fun h => ?_)
        · exact l_M_workOut_190 ih _ hE1 hm1 h
        · refine lc_c h (fun q hq => lc_nn (l_M_bring _ _ hE1 hm1 (er_nn hq))) (fun v2 s5 t5 hc hE2 h => ?_)
          have hm2 := (w_M_bring _ _ _ hm1 (er_nn hc)).fx hm1
          exact l_M_workOut_190 ih _ hE2 hm2 h
      · exact lc_some hE h
theorem l_M_workOut_127 : ∀ (n : Nat) (x1 : Int32) (x5 : Int32) {t0 s0 : g_St} {o : Unit × g_St}, z_M t0 s0 → m_Fix s0 → f_M_workOut_127 n (some 1) x1 x5 s0 = some o → ∃ o', f_M_workOut_127 n (some 1) x1 x5 t0 = some o' ∧ o'.1 = o.1 ∧ z_M o'.2 o.2 := by
  intro n
  induction n with
  | zero =>
    intro x1 x5 t0 s0 o hE hm h
    rw [f_M_workOut_127] at h
    cases h
  | succ n ih =>
    intro x1 x5 t0 s0 o hE hm h
    rw [f_M_workOut_127] at h
    rw [f_M_workOut_127]
    refine lc_gI hE (by decide) h (fun i1 h => ?_)
    refine lc_if h (fun h => ?_) (fun h => ?_)
    · exact lc_some hE h
    · refine lc_gI hE (by decide) h (fun i2 h => ?_)
      refine lc_if h (fun h => ?_) (fun h => ?_)
      · refine lc_c h (fun q hq => lc_nn (l_M_bring _ _ hE hm (er_nn hq))) (fun v1 s4 t4 hc hE1 h => ?_)
        have hm1 := (w_M_bring _ _ _ hm (er_nn hc)).fx hm
        exact ih _ _ hE1 hm1 h
      · exact lc_some hE h
theorem l_M_workOut_88 {k16 k16' : Option Nat → Int32 → Int32 → g_St → Option (Unit × g_St)} (hk16 : ∀ (y1 : Int32) (y2 : Int32) {t s : g_St} {o : Unit × g_St}, z_M t s → m_Fix s → k16 (some 1) y1 y2 s = some o → ∃ o', k16' (some 1) y1 y2 t = some o' ∧ o'.1 = o.1 ∧ z_M o'.2 o.2) (x1 : Int32) {t0 s0 : g_St} {o : Unit × g_St} (hE : z_M t0 s0) (hm : m_Fix s0) (h : f_M_workOut_88 k16 (some 1) x1 s0 = some o) : ∃ o', f_M_workOut_88 k16' (some 1) x1 t0 = some o' ∧ o'.1 = o.1 ∧ z_M o'.2 o.2 := by
  unfold f_M_workOut_88 at h
  unfold f_M_workOut_88
  refine lc_c h (fun q hq => lc_nn (l_M_next _ hE hm (er_nn hq))) (fun i1 s2 t2 hc hE1 h => ?_)
  have hm1 := (w_M_next _ _ hm (er_nn hc)).fx hm
  exact hk16 _ _ hE1 hm1 h
theorem l_M_workOut_35 {k16 k16' : Option Nat → Int32 → Int32 → g_St → Option (Unit × g_St)} (hk16 : ∀ (y1 : Int32) (y2 : Int32) {t s : g_St} {o : Unit × g_St}, z_M t s → m_Fix s → k16 (some 1) y1 y2 s = some o → ∃ o', k16' (some 1) y1 y2 t = some o' ∧ o'.1 = o.1 ∧ z_M o'.2 o.2) : ∀ (n : Nat) (x1 : Int32) (x6 : Int32) {t0 s0 : g_St} {o : Unit × g_St}, z_M t0 s0 → m_Fix s0 → f_M_workOut_35 k16 n (some 1) x1 x6 s0 = some o → ∃ o', f_M_workOut_35 k16' n (some 1) x1 x6 t0 = some o' ∧ o'.1 = o.1 ∧ z_M o'.2 o.2 := by
  intro n
  induction n with
  | zero =>
    intro x1 x6 t0 s0 o hE hm h
    rw [f_M_workOut_35] at h
    cases h
  | succ n ih =>
    intro x1 x6 t0 s0 o hE hm h
    rw [f_M_workOut_35] at h
    rw [f_M_workOut_35]
    refine lc_gR ((hE.fx hm) _ m_k2433).1 (hm _ m_k2433).1 h (fun h => ?_)
    refine lc_aI hE (m_arr_of m_k2433) h (fun i2 h => ?_)
    refine lc_if h (fun h => ?_) (fun h => ?_)
    · refine lc_gI hE (by decide) h (fun i3 h => ?_)
      refine lc_if h (fun h => ?_) (fun h => ?_)
      · exact l_M_workOut_88 hk16 _ hE hm h
      · exact lc_some hE h
    · refine lc_c h (fun q hq => lc_nn (l_M_kindOf _ _ hE hm (er_nn hq))) (fun i4 s5 t5 hc hE1 h => ?_)
      have hm1 := (w_M_kindOf _ _ _ hm (er_nn hc)).fx hm
      refine lc_if h (fun h => ?_) (fun h => ?_)
      · refine lc_c h (fun q hq => lc_nn (l_M_itemOf _ _ hE1 hm1 (er_nn hq))) (fun j6 s7 t7 hc hE2 h => ?_)
        have hm2 := (w_M_itemOf _ _ _ hm1 (er_nn hc)).fx hm1
        refine lc_c h (fun q hq => l_M_fits _ hE2 hm2 hq) (fun i8 s9 t9 hc hE3 h => ?_)
        have hm3 := (w_M_fits _ _ hm2 hc).fx hm2
        refine lc_if h (fun h => ?_) (fun h => ?_)
        · refine lc_pI h (fun h => ?_)
          have hE4 := hE3.pI 1 3
          have hm4 := m_setI 1 3 hm3
          exact ih _ _ hE4 hm4 h
        · exact ih _ _ hE3 hm3 h
      · exact ih _ _ hE1 hm1 h
theorem l_M_workOut_16 : ∀ (n : Nat) (x1 : Int32) (x5 : Int32) {t0 s0 : g_St} {o : Unit × g_St}, z_M t0 s0 → m_Fix s0 → f_M_workOut_16 n (some 1) x1 x5 s0 = some o → ∃ o', f_M_workOut_16 n (some 1) x1 x5 t0 = some o' ∧ o'.1 = o.1 ∧ z_M o'.2 o.2 := by
  intro n
  induction n with
  | zero =>
    intro x1 x5 t0 s0 o hE hm h
    rw [f_M_workOut_16] at h
    cases h
  | succ n ih =>
    intro x1 x5 t0 s0 o hE hm h
    rw [f_M_workOut_16] at h
    rw [f_M_workOut_16]
    refine lc_if h (fun h => ?_) (fun h => ?_)
    · refine lc_gR ((hE.fx hm) _ m_k2753).1 (hm _ m_k2753).1 h (fun h => ?_)
      refine lc_aI hE (m_arr_of m_k2753) h (fun i2 h => ?_)
      refine lc_if h (fun h => ?_) (fun h => ?_)
      · refine lc_c h (fun q hq => lc_nn (l_M_first _ hE hm (er_nn hq))) (fun i3 s4 t4 hc hE1 h => ?_)
        have hm1 := (w_M_first _ _ hm (er_nn hc)).fx hm
        exact l_M_workOut_164 _ _ _ hE1 hm1 h
      · refine lc_c h (fun q hq => lc_nn (l_M_makeGroups _ hE hm (er_nn hq))) (fun v2 s6 t6 hc hE2 h => ?_)
        have hm2 := (w_M_makeGroups _ _ hm (er_nn hc)).fx hm
        refine lc_gI hE2 (by decide) h (fun i7 h => ?_)
        refine lc_if h (fun h => ?_) (fun h => ?_)
        · refine lc_c h (fun q hq => lc_nn (l_M_checkGroups _ hE2 hm2 (er_nn hq))) (fun v3 s9 t9 hc hE3 h => ?_)
          have hm3 := (w_M_checkGroups _ _ hm2 (er_nn hc)).fx hm2
          exact l_M_workOut_127 _ _ _ hE3 hm3 h
        · exact l_M_workOut_127 _ _ _ hE2 hm2 h
    · refine lc_c h (fun q hq => lc_nn (l_M_matches _ hE hm (er_nn hq))) (fun i10 s11 t11 hc hE4 h => ?_)
      have hm4 := (w_M_matches _ _ hm (er_nn hc)).fx hm
      refine lc_if h (fun h => ?_) (fun h => ?_)
      · exact l_M_workOut_88 ih _ hE4 hm4 h
      · exact l_M_workOut_35 ih _ _ _ hE4 hm4 h
theorem l_M_workOut (x1 : Int32) (x2 : Int32) (x3 : Int32) (x4 : Int32) {t0 s0 : g_St} {o : Unit × g_St} (hE : z_M t0 s0) (hm : m_Fix s0) (h : f_M_workOut (some 1) x1 x2 x3 x4 s0 = some o) : ∃ o', f_M_workOut (some 1) x1 x2 x3 x4 t0 = some o' ∧ o'.1 = o.1 ∧ z_M o'.2 o.2 := by
  unfold f_M_workOut at h
  unfold f_M_workOut
  refine lc_c h (fun q hq => lc_nn (l_M_gather _ _ _ _ hE hm (er_nn hq))) (fun v1 s2 t2 hc hE1 h => ?_)
  have hm1 := (w_M_gather _ _ _ _ _ hm (er_nn hc)).fx hm
  refine lc_c h (fun q hq => lc_nn (l_M_first _ hE1 hm1 (er_nn hq))) (fun i3 s4 t4 hc hE2 h => ?_)
  have hm2 := (w_M_first _ _ hm1 (er_nn hc)).fx hm1
  exact l_M_workOut_16 _ _ _ hE2 hm2 h
theorem l_M_compare (y0 : Int64) (y2 : Int64) {t0 s0 : g_St} {o : Int32 × g_St} (hE : z_M t0 s0) (hm : m_Fix s0) (h : f_M_compare y0 y2 s0 = some o) : ∃ o', f_M_compare y0 y2 t0 = some o' ∧ o'.1 = o.1 ∧ z_M o'.2 o.2 := by
  unfold f_M_compare at h
  unfold f_M_compare
  refine lc_if h (fun h => ?_) (fun h => ?_)
  · exact lc_some hE h
  · refine lc_if h (fun h => ?_) (fun h => ?_)
    · exact lc_some hE h
    · refine lc_if h (fun h => ?_) (fun h => ?_)
      · exact lc_some hE h
      · refine lc_if h (fun h => ?_) (fun h => ?_)
        · exact lc_some hE h
        · exact lc_some hE h
theorem l_M_compareTrails_140 (x3 : Int32) (x4 : Int32) {t0 s0 : g_St} {o : Int32 × g_St} (hE : z_M t0 s0) (hm : m_Fix s0) (h : f_M_compareTrails_140 x3 x4 s0 = some o) : ∃ o', f_M_compareTrails_140 x3 x4 t0 = some o' ∧ o'.1 = o.1 ∧ z_M o'.2 o.2 := by
  unfold f_M_compareTrails_140 at h
  unfold f_M_compareTrails_140
  refine lc_if h (fun h => ?_) (fun h => ?_)
  · refine lc_if h (fun h => ?_) (fun h => ?_)
    · exact lc_some hE h
    · exact lc_some hE h
  · exact lc_some hE h
theorem l_M_compareTrails_84 : ∀ (n : Nat) (x1 : Int32) (x2 : Int32) (x3 : Int32) (x4 : Int32) (x5 : Int32) {t0 s0 : g_St} {o : Int32 × g_St}, z_M t0 s0 → m_Fix s0 → f_M_compareTrails_84 n (some 1) x1 x2 x3 x4 x5 s0 = some o → ∃ o', f_M_compareTrails_84 n (some 1) x1 x2 x3 x4 x5 t0 = some o' ∧ o'.1 = o.1 ∧ z_M o'.2 o.2 := by
  intro n
  induction n with
  | zero =>
    intro x1 x2 x3 x4 x5 t0 s0 o hE hm h
    rw [f_M_compareTrails_84] at h
    cases h
  | succ n ih =>
    intro x1 x2 x3 x4 x5 t0 s0 o hE hm h
    rw [f_M_compareTrails_84] at h
    rw [f_M_compareTrails_84]
    refine lc_if h (fun h => ?_) (fun h => ?_)
    · exact l_M_compareTrails_140 _ _ hE hm h
    · refine lc_if h (fun h => ?_) (fun h => ?_)
      · exact l_M_compareTrails_140 _ _ hE hm h
      · refine lc_gR ((hE.fx hm) _ m_k5185).1 (hm _ m_k5185).1 h (fun h => ?_)
        refine lc_aL hE (m_arr_of m_k5185) h (fun j2 h => ?_)
        refine lc_gR ((hE.fx hm) _ m_k5185).1 (hm _ m_k5185).1 h (fun h => ?_)
        refine lc_aL hE (m_arr_of m_k5185) h (fun j4 h => ?_)
        refine lc_c h (fun q hq => l_M_compare _ _ hE hm hq) (fun i5 s6 t6 hc hE1 h => ?_)
        have hm1 := (w_M_compare _ _ _ hm hc).fx hm
        refine lc_if h (fun h => ?_) (fun h => ?_)
        · exact ih _ _ _ _ _ hE1 hm1 h
        · exact lc_some hE1 h
theorem l_M_compareTrails (x1 : Int32) (x2 : Int32) {t0 s0 : g_St} {o : Int32 × g_St} (hE : z_M t0 s0) (hm : m_Fix s0) (h : f_M_compareTrails (some 1) x1 x2 s0 = some o) : ∃ o', f_M_compareTrails (some 1) x1 x2 t0 = some o' ∧ o'.1 = o.1 ∧ z_M o'.2 o.2 := by
  unfold f_M_compareTrails at h
  unfold f_M_compareTrails
  refine lc_gR ((hE.fx hm) _ m_k5121).1 (hm _ m_k5121).1 h (fun h => ?_)
  refine lc_aI hE (m_arr_of m_k5121) h (fun i2 h => ?_)
  refine lc_gR ((hE.fx hm) _ m_k5121).1 (hm _ m_k5121).1 h (fun h => ?_)
  refine lc_aI hE (m_arr_of m_k5121) h (fun i4 h => ?_)
  refine lc_gR ((hE.fx hm) _ m_k1409).1 (hm _ m_k1409).1 h (fun h => ?_)
  refine lc_gR ((hE.fx hm) _ m_k4993).1 (hm _ m_k4993).1 h (fun h => ?_)
  refine lc_aI hE (m_arr_of m_k4993) h (fun i7 h => ?_)
  refine lc_aI hE (m_arr_of m_k1409) h (fun i8 h => ?_)
  refine lc_if h (fun h => ?_) (fun h => ?_)
  · refine lc_if h (fun h => ?_) (fun h => ?_)
    · refine lc_gR ((hE.fx hm) _ m_k5185).1 (hm _ m_k5185).1 h (fun h => ?_)
      refine lc_aL hE (m_arr_of m_k5185) h (fun j10 h => ?_)
      refine lc_gR ((hE.fx hm) _ m_k5185).1 (hm _ m_k5185).1 h (fun h => ?_)
      refine lc_aL hE (m_arr_of m_k5185) h (fun j12 h => ?_)
      refine lc_c h (fun q hq => l_M_compare _ _ hE hm hq) (fun i13 s14 t14 hc hE1 h => ?_)
      have hm1 := (w_M_compare _ _ _ hm hc).fx hm
      exact lc_some hE1 h
    · refine lc_if h (fun h => ?_) (fun h => ?_)
      · exact lc_some hE h
      · exact lc_some hE h
  · exact l_M_compareTrails_84 _ _ _ _ _ _ hE hm h
theorem l_M_compareAnswers_91 : ∀ (n : Nat) (x1 : Int32) (x2 : Int32) (x3 : Int32) {t0 s0 : g_St} {o : Int32 × g_St}, z_M t0 s0 → m_Fix s0 → f_M_compareAnswers_91 n (some 1) x1 x2 x3 s0 = some o → ∃ o', f_M_compareAnswers_91 n (some 1) x1 x2 x3 t0 = some o' ∧ o'.1 = o.1 ∧ z_M o'.2 o.2 := by
  intro n
  induction n with
  | zero =>
    intro x1 x2 x3 t0 s0 o hE hm h
    rw [f_M_compareAnswers_91] at h
    cases h
  | succ n ih =>
    intro x1 x2 x3 t0 s0 o hE hm h
    rw [f_M_compareAnswers_91] at h
    rw [f_M_compareAnswers_91]
    refine lc_gI hE (by decide) h (fun i1 h => ?_)
    refine lc_if h (fun h => ?_) (fun h => ?_)
    · exact lc_some hE h
    · refine lc_gR ((hE.fx hm) _ m_k5505).1 (hm _ m_k5505).1 h (fun h => ?_)
      refine lc_aL hE (m_arr_of m_k5505) h (fun j3 h => ?_)
      refine lc_gR ((hE.fx hm) _ m_k5505).1 (hm _ m_k5505).1 h (fun h => ?_)
      refine lc_aL hE (m_arr_of m_k5505) h (fun j5 h => ?_)
      refine lc_c h (fun q hq => l_M_compare _ _ hE hm hq) (fun i6 s7 t7 hc hE1 h => ?_)
      have hm1 := (w_M_compare _ _ _ hm hc).fx hm
      refine lc_if h (fun h => ?_) (fun h => ?_)
      · exact ih _ _ _ hE1 hm1 h
      · exact lc_some hE1 h
theorem l_M_compareAnswers_73 {k2 k2' : Option Nat → Int32 → Int32 → Int32 → g_St → Option (Int32 × g_St)} (hk2 : ∀ (y1 : Int32) (y2 : Int32) (y3 : Int32) {t s : g_St} {o : Int32 × g_St}, z_M t s → m_Fix s → k2 (some 1) y1 y2 y3 s = some o → ∃ o', k2' (some 1) y1 y2 y3 t = some o' ∧ o'.1 = o.1 ∧ z_M o'.2 o.2) (x1 : Int32) (x2 : Int32) (x3 : Int32) (x0s : Int32) {t0 s0 : g_St} {o : Int32 × g_St} (hE : z_M t0 s0) (hm : m_Fix s0) (h : f_M_compareAnswers_73 k2 (some 1) x1 x2 x3 x0s s0 = some o) : ∃ o', f_M_compareAnswers_73 k2' (some 1) x1 x2 x3 x0s t0 = some o' ∧ o'.1 = o.1 ∧ z_M o'.2 o.2 := by
  unfold f_M_compareAnswers_73 at h
  unfold f_M_compareAnswers_73
  refine lc_if h (fun h => ?_) (fun h => ?_)
  · exact hk2 _ _ _ hE hm h
  · exact lc_some hE h
theorem l_M_compareAnswers_2 : ∀ (n : Nat) (x1 : Int32) (x2 : Int32) (x3 : Int32) {t0 s0 : g_St} {o : Int32 × g_St}, z_M t0 s0 → m_Fix s0 → f_M_compareAnswers_2 n (some 1) x1 x2 x3 s0 = some o → ∃ o', f_M_compareAnswers_2 n (some 1) x1 x2 x3 t0 = some o' ∧ o'.1 = o.1 ∧ z_M o'.2 o.2 := by
  intro n
  induction n with
  | zero =>
    intro x1 x2 x3 t0 s0 o hE hm h
    rw [f_M_compareAnswers_2] at h
    cases h
  | succ n ih =>
    intro x1 x2 x3 t0 s0 o hE hm h
    rw [f_M_compareAnswers_2] at h
    rw [f_M_compareAnswers_2]
    refine lc_gI hE (by decide) h (fun i1 h => ?_)
    refine lc_if h (fun h => ?_) (fun h => ?_)
    · exact l_M_compareAnswers_91 _ _ _ _ hE hm h
    · refine lc_gR ((hE.fx hm) _ m_k4609).1 (hm _ m_k4609).1 h (fun h => ?_)
      refine lc_aI hE (m_arr_of m_k4609) h (fun i3 h => ?_)
      refine lc_if h (fun h => ?_) (fun h => ?_)
      · refine lc_gR ((hE.fx hm) _ m_k5569).1 (hm _ m_k5569).1 h (fun h => ?_)
        refine lc_aL hE (m_arr_of m_k5569) h (fun j11 h => ?_)
        refine lc_gR ((hE.fx hm) _ m_k5569).1 (hm _ m_k5569).1 h (fun h => ?_)
        refine lc_aL hE (m_arr_of m_k5569) h (fun j13 h => ?_)
        refine lc_c h (fun q hq => lc_nn (l_M_compareTrails _ _ hE hm (er_nn hq))) (fun i14 s15 t15 hc hE1 h => ?_)
        have hm1 := (w_M_compareTrails _ _ _ hm (er_nn hc)).fx hm
        exact l_M_compareAnswers_73 ih _ _ _ _ hE1 hm1 h
      · refine lc_gR ((hE.fx hm) _ m_k5569).1 (hm _ m_k5569).1 h (fun h => ?_)
        refine lc_aL hE (m_arr_of m_k5569) h (fun j5 h => ?_)
        refine lc_gR ((hE.fx hm) _ m_k5569).1 (hm _ m_k5569).1 h (fun h => ?_)
        refine lc_aL hE (m_arr_of m_k5569) h (fun j7 h => ?_)
        refine lc_c h (fun q hq => l_M_compare _ _ hE hm hq) (fun i8 s9 t9 hc hE2 h => ?_)
        have hm2 := (w_M_compare _ _ _ hm hc).fx hm
        exact l_M_compareAnswers_73 ih _ _ _ _ hE2 hm2 h
theorem l_M_compareAnswers (x1 : Int32) (x2 : Int32) {t0 s0 : g_St} {o : Int32 × g_St} (hE : z_M t0 s0) (hm : m_Fix s0) (h : f_M_compareAnswers (some 1) x1 x2 s0 = some o) : ∃ o', f_M_compareAnswers (some 1) x1 x2 t0 = some o' ∧ o'.1 = o.1 ∧ z_M o'.2 o.2 := by
  unfold f_M_compareAnswers at h
  unfold f_M_compareAnswers
  exact l_M_compareAnswers_2 _ _ _ _ hE hm h
theorem l_M_sort_12 {k2 k2' : Option Nat → Int32 → g_St → Option (Unit × g_St)} (hk2 : ∀ (y1 : Int32) {t s : g_St} {o : Unit × g_St}, z_M t s → m_Fix s → k2 (some 1) y1 s = some o → ∃ o', k2' (some 1) y1 t = some o' ∧ o'.1 = o.1 ∧ z_M o'.2 o.2) : ∀ (n : Nat) (x1 : Int32) (x2 : Int32) {t0 s0 : g_St} {o : Unit × g_St}, z_M t0 s0 → m_Fix s0 → f_M_sort_12 k2 n (some 1) x1 x2 s0 = some o → ∃ o', f_M_sort_12 k2' n (some 1) x1 x2 t0 = some o' ∧ o'.1 = o.1 ∧ z_M o'.2 o.2 := by
  intro n
  induction n with
  | zero =>
    intro x1 x2 t0 s0 o hE hm h
    rw [f_M_sort_12] at h
    cases h
  | succ n ih =>
    intro x1 x2 t0 s0 o hE hm h
    rw [f_M_sort_12] at h
    rw [f_M_sort_12]
    refine lc_if h (fun h => ?_) (fun h => ?_)
    · refine lc_gR ((hE.fx hm) _ m_k5697).1 (hm _ m_k5697).1 h (fun h => ?_)
      refine lc_sI hE (m_arr_of m_k5697) h (fun j1 h => ?_)
      have hE1 := hE.sI 4308 j1 x1
      have hm1 := m_setAI 4308 j1 x1 hm
      exact hk2 _ hE1 hm1 h
    · refine lc_gR ((hE.fx hm) _ m_k5697).1 (hm _ m_k5697).1 h (fun h => ?_)
      refine lc_aI hE (m_arr_of m_k5697) h (fun i4 h => ?_)
      refine lc_c h (fun q hq => lc_nn (l_M_compareAnswers _ _ hE hm (er_nn hq))) (fun i5 s6 t6 hc hE2 h => ?_)
      have hm2 := (w_M_compareAnswers _ _ _ hm (er_nn hc)).fx hm
      refine lc_if h (fun h => ?_) (fun h => ?_)
      · refine lc_gR ((hE2.fx hm2) _ m_k5697).1 (hm2 _ m_k5697).1 h (fun h => ?_)
        refine lc_sI hE2 (m_arr_of m_k5697) h (fun j3 h => ?_)
        have hE3 := hE2.sI 4308 j3 x1
        have hm3 := m_setAI 4308 j3 x1 hm2
        exact hk2 _ hE3 hm3 h
      · refine lc_gR ((hE2.fx hm2) _ m_k5697).1 (hm2 _ m_k5697).1 h (fun h => ?_)
        refine lc_gR ((hE2.fx hm2) _ m_k5697).1 (hm2 _ m_k5697).1 h (fun h => ?_)
        refine lc_aI hE2 (m_arr_of m_k5697) h (fun i11 h => ?_)
        refine lc_sI hE2 (m_arr_of m_k5697) h (fun j4 h => ?_)
        have hE4 := hE2.sI 4308 j4 i11
        have hm4 := m_setAI 4308 j4 i11 hm2
        exact ih _ _ hE4 hm4 h
theorem l_M_sort_2 : ∀ (n : Nat) (x1 : Int32) {t0 s0 : g_St} {o : Unit × g_St}, z_M t0 s0 → m_Fix s0 → f_M_sort_2 n (some 1) x1 s0 = some o → ∃ o', f_M_sort_2 n (some 1) x1 t0 = some o' ∧ o'.1 = o.1 ∧ z_M o'.2 o.2 := by
  intro n
  induction n with
  | zero =>
    intro x1 t0 s0 o hE hm h
    rw [f_M_sort_2] at h
    cases h
  | succ n ih =>
    intro x1 t0 s0 o hE hm h
    rw [f_M_sort_2] at h
    rw [f_M_sort_2]
    refine lc_gI hE (by decide) h (fun i1 h => ?_)
    refine lc_if h (fun h => ?_) (fun h => ?_)
    · exact lc_some hE h
    · exact l_M_sort_12 ih _ _ _ hE hm h
theorem l_M_sort  {t0 s0 : g_St} {o : Unit × g_St} (hE : z_M t0 s0) (hm : m_Fix s0) (h : f_M_sort (some 1) s0 = some o) : ∃ o', f_M_sort (some 1) t0 = some o' ∧ o'.1 = o.1 ∧ z_M o'.2 o.2 := by
  unfold f_M_sort at h
  unfold f_M_sort
  exact l_M_sort_2 _ _ hE hm h
theorem l_M_round_161 {k100 k100' : Option Nat → Int32 → Int32 → Int32 → Int32 → Int32 → Int32 → Int32 → Int32 → g_St → Option (Unit × g_St)} (hk100 : ∀ (y1 : Int32) (y2 : Int32) (y3 : Int32) (y4 : Int32) (y5 : Int32) (y6 : Int32) (y7 : Int32) (y8 : Int32) {t s : g_St} {o : Unit × g_St}, z_M t s → m_Fix s → k100 (some 1) y1 y2 y3 y4 y5 y6 y7 y8 s = some o → ∃ o', k100' (some 1) y1 y2 y3 y4 y5 y6 y7 y8 t = some o' ∧ o'.1 = o.1 ∧ z_M o'.2 o.2) (x1 : Int32) (x2 : Int32) (x3 : Int32) (x4 : Int32) (x5 : Int32) (x6 : Int32) (x7 : Int32) (x8 : Int32) (x9 : Int32) {t0 s0 : g_St} {o : Unit × g_St} (hE : z_M t0 s0) (hm : m_Fix s0) (h : f_M_round_161 k100 (some 1) x1 x2 x3 x4 x5 x6 x7 x8 x9 s0 = some o) : ∃ o', f_M_round_161 k100' (some 1) x1 x2 x3 x4 x5 x6 x7 x8 x9 t0 = some o' ∧ o'.1 = o.1 ∧ z_M o'.2 o.2 := by
  unfold f_M_round_161 at h
  unfold f_M_round_161
  refine lc_c h (fun q hq => lc_nn (l_M_workOut _ _ _ _ hE hm (er_nn hq))) (fun v1 s2 t2 hc hE1 h => ?_)
  have hm1 := (w_M_workOut _ _ _ _ _ hm (er_nn hc)).fx hm
  exact hk100 _ _ _ _ _ _ _ _ hE1 hm1 h
theorem l_M_round_147 {k100 k100' : Option Nat → Int32 → Int32 → Int32 → Int32 → Int32 → Int32 → Int32 → Int32 → g_St → Option (Unit × g_St)} (hk100 : ∀ (y1 : Int32) (y2 : Int32) (y3 : Int32) (y4 : Int32) (y5 : Int32) (y6 : Int32) (y7 : Int32) (y8 : Int32) {t s : g_St} {o : Unit × g_St}, z_M t s → m_Fix s → k100 (some 1) y1 y2 y3 y4 y5 y6 y7 y8 s = some o → ∃ o', k100' (some 1) y1 y2 y3 y4 y5 y6 y7 y8 t = some o' ∧ o'.1 = o.1 ∧ z_M o'.2 o.2) (x1 : Int32) (x2 : Int32) (x3 : Int32) (x4 : Int32) (x5 : Int32) (x6 : Int32) (x7 : Int32) (x8 : Int32) (x9 : Int32) (x0s : Int32) {t0 s0 : g_St} {o : Unit × g_St} (hE : z_M t0 s0) (hm : m_Fix s0) (h : f_M_round_147 k100 (some 1) x1 x2 x3 x4 x5 x6 x7 x8 x9 x0s s0 = some o) : ∃ o', f_M_round_147 k100' (some 1) x1 x2 x3 x4 x5 x6 x7 x8 x9 x0s t0 = some o' ∧ o'.1 = o.1 ∧ z_M o'.2 o.2 := by
  unfold f_M_round_147 at h
  unfold f_M_round_147
  refine lc_if h (fun h => ?_) (fun h => ?_)
  · exact l_M_round_161 hk100 _ _ _ _ _ _ _ _ _ hE hm h
  · refine lc_if h (fun h => ?_) (fun h => ?_)
    · exact hk100 _ _ _ _ _ _ _ _ hE hm h
    · exact l_M_round_161 hk100 _ _ _ _ _ _ _ _ _ hE hm h
theorem l_M_round_100 {k48 k48' : Option Nat → Int32 → Int32 → Int32 → Int32 → Int32 → Int32 → g_St → Option (Unit × g_St)} (hk48 : ∀ (y1 : Int32) (y2 : Int32) (y3 : Int32) (y4 : Int32) (y5 : Int32) (y6 : Int32) {t s : g_St} {o : Unit × g_St}, z_M t s → m_Fix s → k48 (some 1) y1 y2 y3 y4 y5 y6 s = some o → ∃ o', k48' (some 1) y1 y2 y3 y4 y5 y6 t = some o' ∧ o'.1 = o.1 ∧ z_M o'.2 o.2) : ∀ (n : Nat) (x1 : Int32) (x2 : Int32) (x3 : Int32) (x4 : Int32) (x5 : Int32) (x6 : Int32) (x7 : Int32) (x8 : Int32) {t0 s0 : g_St} {o : Unit × g_St}, z_M t0 s0 → m_Fix s0 → f_M_round_100 k48 n (some 1) x1 x2 x3 x4 x5 x6 x7 x8 s0 = some o → ∃ o', f_M_round_100 k48' n (some 1) x1 x2 x3 x4 x5 x6 x7 x8 t0 = some o' ∧ o'.1 = o.1 ∧ z_M o'.2 o.2 := by
  intro n
  induction n with
  | zero =>
    intro x1 x2 x3 x4 x5 x6 x7 x8 t0 s0 o hE hm h
    rw [f_M_round_100] at h
    cases h
  | succ n ih =>
    intro x1 x2 x3 x4 x5 x6 x7 x8 t0 s0 o hE hm h
    rw [f_M_round_100] at h
    rw [f_M_round_100]
    refine lc_gR ((hE.fx hm) _ m_k2049).1 (hm _ m_k2049).1 h (fun h => ?_)
    refine lc_aI hE (m_arr_of m_k2049) h (fun i2 h => ?_)
    refine lc_if h (fun h => ?_) (fun h => ?_)
    · exact hk48 _ _ _ _ _ _ hE hm h
    · refine lc_gI hE (by decide) h (fun i3 h => ?_)
      refine lc_if h (fun h => ?_) (fun h => ?_)
      · refine lc_gR ((hE.fx hm) _ m_k1985).1 (hm _ m_k1985).1 h (fun h => ?_)
        refine lc_aI hE (m_arr_of m_k1985) h (fun i5 h => ?_)
        refine lc_c h (fun q hq => lc_nn (l_M_timesNamed _ _ hE hm (er_nn hq))) (fun i6 s7 t7 hc hE1 h => ?_)
        have hm1 := (w_M_timesNamed _ _ _ hm (er_nn hc)).fx hm
        refine lc_if h (fun h => ?_) (fun h => ?_)
        · exact l_M_round_147 ih _ _ _ _ _ _ _ _ _ _ hE1 hm1 h
        · exact l_M_round_147 ih _ _ _ _ _ _ _ _ _ _ hE1 hm1 h
      · exact hk48 _ _ _ _ _ _ hE hm h
theorem l_M_round_48 : ∀ (n : Nat) (x1 : Int32) (x2 : Int32) (x3 : Int32) (x4 : Int32) (x5 : Int32) (x6 : Int32) {t0 s0 : g_St} {o : Unit × g_St}, z_M t0 s0 → m_Fix s0 → f_M_round_48 n (some 1) x1 x2 x3 x4 x5 x6 s0 = some o → ∃ o', f_M_round_48 n (some 1) x1 x2 x3 x4 x5 x6 t0 = some o' ∧ o'.1 = o.1 ∧ z_M o'.2 o.2 := by
  intro n
  induction n with
  | zero =>
    intro x1 x2 x3 x4 x5 x6 t0 s0 o hE hm h
    rw [f_M_round_48] at h
    cases h
  | succ n ih =>
    intro x1 x2 x3 x4 x5 x6 t0 s0 o hE hm h
    rw [f_M_round_48] at h
    rw [f_M_round_48]
    refine lc_gI hE (by decide) h (fun i1 h => ?_)
    refine lc_if h (fun h => ?_) (fun h => ?_)
    · exact lc_some hE h
    · refine lc_gR ((hE.fx hm) _ m_k4801).1 (hm _ m_k4801).1 h (fun h => ?_)
      refine lc_aI hE (m_arr_of m_k4801) h (fun i3 h => ?_)
      refine lc_if h (fun h => ?_) (fun h => ?_)
      · refine lc_c h (fun q hq => lc_nn (l_M_isRecursive _ hE hm (er_nn hq))) (fun i4 s5 t5 hc hE1 h => ?_)
        have hm1 := (w_M_isRecursive _ _ hm (er_nn hc)).fx hm
        refine lc_if h (fun h => ?_) (fun h => ?_)
        · exact l_M_round_100 ih _ _ _ _ _ _ _ _ _ hE1 hm1 h
        · refine lc_gR ((hE1.fx hm1) _ m_k1921).1 (hm1 _ m_k1921).1 h (fun h => ?_)
          refine lc_aI hE1 (m_arr_of m_k1921) h (fun i7 h => ?_)
          refine lc_if h (fun h => ?_) (fun h => ?_)
          · exact l_M_round_100 ih _ _ _ _ _ _ _ _ _ hE1 hm1 h
          · exact l_M_round_100 ih _ _ _ _ _ _ _ _ _ hE1 hm1 h
      · exact ih _ _ _ _ _ _ hE hm h
theorem l_M_round_6 : ∀ (n : Nat) (x1 : Int32) (x2 : Int32) (x3 : Int32) (x4 : Int32) (x5 : Int32) (x6 : Int32) {t0 s0 : g_St} {o : Unit × g_St}, z_M t0 s0 → m_Fix s0 → f_M_round_6 n (some 1) x1 x2 x3 x4 x5 x6 s0 = some o → ∃ o', f_M_round_6 n (some 1) x1 x2 x3 x4 x5 x6 t0 = some o' ∧ o'.1 = o.1 ∧ z_M o'.2 o.2 := by
  intro n
  induction n with
  | zero =>
    intro x1 x2 x3 x4 x5 x6 t0 s0 o hE hm h
    rw [f_M_round_6] at h
    cases h
  | succ n ih =>
    intro x1 x2 x3 x4 x5 x6 t0 s0 o hE hm h
    rw [f_M_round_6] at h
    rw [f_M_round_6]
    refine lc_gI hE (by decide) h (fun i1 h => ?_)
    refine lc_if h (fun h => ?_) (fun h => ?_)
    · exact l_M_round_48 _ _ _ _ _ _ _ hE hm h
    · refine lc_gR ((hE.fx hm) _ m_k4801).1 (hm _ m_k4801).1 h (fun h => ?_)
      refine lc_aI hE (m_arr_of m_k4801) h (fun i3 h => ?_)
      refine lc_if h (fun h => ?_) (fun h => ?_)
      · exact ih _ _ _ _ _ _ hE hm h
      · exact ih _ _ _ _ _ _ hE hm h
theorem l_M_round (x1 : Int32) (x2 : Int32) (x3 : Int32) (x4 : Int32) {t0 s0 : g_St} {o : Unit × g_St} (hE : z_M t0 s0) (hm : m_Fix s0) (h : f_M_round (some 1) x1 x2 x3 x4 s0 = some o) : ∃ o', f_M_round (some 1) x1 x2 x3 x4 t0 = some o' ∧ o'.1 = o.1 ∧ z_M o'.2 o.2 := by
  unfold f_M_round at h
  unfold f_M_round
  exact l_M_round_6 _ _ _ _ _ _ _ hE hm h
theorem l_M_workComponent_197 {k107 k107' : Option Nat → Int32 → Int32 → Int32 → Int32 → Int32 → Int32 → Int32 → g_St → Option (Unit × g_St)} (hk107 : ∀ (y1 : Int32) (y2 : Int32) (y3 : Int32) (y4 : Int32) (y5 : Int32) (y6 : Int32) (y7 : Int32) {t s : g_St} {o : Unit × g_St}, z_M t s → m_Fix s → k107 (some 1) y1 y2 y3 y4 y5 y6 y7 s = some o → ∃ o', k107' (some 1) y1 y2 y3 y4 y5 y6 y7 t = some o' ∧ o'.1 = o.1 ∧ z_M o'.2 o.2) (x1 : Int32) (x2 : Int32) (x3 : Int32) (x4 : Int32) (x5 : Int32) (x6 : Int32) (x0s : Int32) {t0 s0 : g_St} {o : Unit × g_St} (hE : z_M t0 s0) (hm : m_Fix s0) (h : f_M_workComponent_197 k107 (some 1) x1 x2 x3 x4 x5 x6 x0s s0 = some o) : ∃ o', f_M_workComponent_197 k107' (some 1) x1 x2 x3 x4 x5 x6 x0s t0 = some o' ∧ o'.1 = o.1 ∧ z_M o'.2 o.2 := by
  unfold f_M_workComponent_197 at h
  unfold f_M_workComponent_197
  refine lc_if h (fun h => ?_) (fun h => ?_)
  · exact hk107 _ _ _ _ _ _ _ hE hm h
  · refine lc_gI hE (by decide) h (fun i1 h => ?_)
    refine lc_if h (fun h => ?_) (fun h => ?_)
    · refine lc_if h (fun h => ?_) (fun h => ?_)
      · refine lc_pI h (fun h => ?_)
        have hE1 := hE.pI 1 4
        have hm1 := m_setI 1 4 hm
        exact hk107 _ _ _ _ _ _ _ hE1 hm1 h
      · exact hk107 _ _ _ _ _ _ _ hE hm h
    · exact hk107 _ _ _ _ _ _ _ hE hm h
theorem l_M_workComponent_150 {k107 k107' : Option Nat → Int32 → Int32 → Int32 → Int32 → Int32 → Int32 → Int32 → g_St → Option (Unit × g_St)} (hk107 : ∀ (y1 : Int32) (y2 : Int32) (y3 : Int32) (y4 : Int32) (y5 : Int32) (y6 : Int32) (y7 : Int32) {t s : g_St} {o : Unit × g_St}, z_M t s → m_Fix s → k107 (some 1) y1 y2 y3 y4 y5 y6 y7 s = some o → ∃ o', k107' (some 1) y1 y2 y3 y4 y5 y6 y7 t = some o' ∧ o'.1 = o.1 ∧ z_M o'.2 o.2) (x1 : Int32) (x2 : Int32) (x3 : Int32) (x4 : Int32) (x5 : Int32) (x8 : Int32) (x1s : Int32) (x2s : Int32) (x3s : Int32) (x4s : Int32) {t0 s0 : g_St} {o : Unit × g_St} (hE : z_M t0 s0) (hm : m_Fix s0) (h : f_M_workComponent_150 k107 (some 1) x1 x2 x3 x4 x5 x8 (some 1) x1s x2s x3s x4s s0 = some o) : ∃ o', f_M_workComponent_150 k107' (some 1) x1 x2 x3 x4 x5 x8 (some 1) x1s x2s x3s x4s t0 = some o' ∧ o'.1 = o.1 ∧ z_M o'.2 o.2 := by
  unfold f_M_workComponent_150 at h
  unfold f_M_workComponent_150
  refine lc_c h (fun q hq => lc_nn (l_M_round _ _ _ _ hE hm (er_nn hq))) (fun v1 s2 t2 hc hE1 h => ?_)
  have hm1 := (w_M_round _ _ _ _ _ hm (er_nn hc)).fx hm
  refine lc_gR ((hE1.fx hm1) _ m_k5825).1 (hm1 _ m_k5825).1 h (fun h => ?_)
  refine lc_gI hE1 (by decide) h (fun i4 h => ?_)
  refine lc_sI hE1 (m_arr_of m_k5825) h (fun j2 h => ?_)
  have hE2 := hE1.sI 4436 j2 (i4 - x8)
  have hm2 := m_setAI 4436 j2 (i4 - x8) hm1
  refine lc_if h (fun h => ?_) (fun h => ?_)
  · exact l_M_workComponent_197 hk107 _ _ _ _ _ _ _ hE2 hm2 h
  · refine lc_gI hE2 (by decide) h (fun i6 h => ?_)
    refine lc_if h (fun h => ?_) (fun h => ?_)
    · exact l_M_workComponent_197 hk107 _ _ _ _ _ _ _ hE2 hm2 h
    · exact l_M_workComponent_197 hk107 _ _ _ _ _ _ _ hE2 hm2 h
theorem l_M_workComponent_138 {k107 k107' : Option Nat → Int32 → Int32 → Int32 → Int32 → Int32 → Int32 → Int32 → g_St → Option (Unit × g_St)} (hk107 : ∀ (y1 : Int32) (y2 : Int32) (y3 : Int32) (y4 : Int32) (y5 : Int32) (y6 : Int32) (y7 : Int32) {t s : g_St} {o : Unit × g_St}, z_M t s → m_Fix s → k107 (some 1) y1 y2 y3 y4 y5 y6 y7 s = some o → ∃ o', k107' (some 1) y1 y2 y3 y4 y5 y6 y7 t = some o' ∧ o'.1 = o.1 ∧ z_M o'.2 o.2) (x1 : Int32) (x2 : Int32) (x3 : Int32) (x4 : Int32) (x5 : Int32) (x8 : Int32) (x1s : Int32) (x2s : Int32) {t0 s0 : g_St} {o : Unit × g_St} (hE : z_M t0 s0) (hm : m_Fix s0) (h : f_M_workComponent_138 k107 (some 1) x1 x2 x3 x4 x5 x8 (some 1) x1s x2s s0 = some o) : ∃ o', f_M_workComponent_138 k107' (some 1) x1 x2 x3 x4 x5 x8 (some 1) x1s x2s t0 = some o' ∧ o'.1 = o.1 ∧ z_M o'.2 o.2 := by
  unfold f_M_workComponent_138 at h
  unfold f_M_workComponent_138
  refine lc_if h (fun h => ?_) (fun h => ?_)
  · exact l_M_workComponent_150 hk107 _ _ _ _ _ _ _ _ _ _ hE hm h
  · exact l_M_workComponent_150 hk107 _ _ _ _ _ _ _ _ _ _ hE hm h
theorem l_M_workComponent_107 : ∀ (n : Nat) (x1 : Int32) (x2 : Int32) (x3 : Int32) (x4 : Int32) (x5 : Int32) (x6 : Int32) (x7 : Int32) {t0 s0 : g_St} {o : Unit × g_St}, z_M t0 s0 → m_Fix s0 → f_M_workComponent_107 n (some 1) x1 x2 x3 x4 x5 x6 x7 s0 = some o → ∃ o', f_M_workComponent_107 n (some 1) x1 x2 x3 x4 x5 x6 x7 t0 = some o' ∧ o'.1 = o.1 ∧ z_M o'.2 o.2 := by
  intro n
  induction n with
  | zero =>
    intro x1 x2 x3 x4 x5 x6 x7 t0 s0 o hE hm h
    rw [f_M_workComponent_107] at h
    cases h
  | succ n ih =>
    intro x1 x2 x3 x4 x5 x6 x7 t0 s0 o hE hm h
    rw [f_M_workComponent_107] at h
    rw [f_M_workComponent_107]
    refine lc_if h (fun h => ?_) (fun h => ?_)
    · refine lc_gR ((hE.fx hm) _ m_k5761).1 (hm _ m_k5761).1 h (fun h => ?_)
      refine lc_sI hE (m_arr_of m_k5761) h (fun j1 h => ?_)
      have hE1 := hE.sI 4372 j1 x5
      have hm1 := m_setAI 4372 j1 x5 hm
      exact lc_some hE1 h
    · refine lc_gI hE (by decide) h (fun i3 h => ?_)
      refine lc_if h (fun h => ?_) (fun h => ?_)
      · refine lc_gI hE (by decide) h (fun i6 h => ?_)
        refine lc_if h (fun h => ?_) (fun h => ?_)
        · exact l_M_workComponent_138 ih _ _ _ _ _ _ _ _ hE hm h
        · exact l_M_workComponent_138 ih _ _ _ _ _ _ _ _ hE hm h
      · refine lc_gR ((hE.fx hm) _ m_k5761).1 (hm _ m_k5761).1 h (fun h => ?_)
        refine lc_sI hE (m_arr_of m_k5761) h (fun j2 h => ?_)
        have hE2 := hE.sI 4372 j2 x5
        have hm2 := m_setAI 4372 j2 x5 hm
        exact lc_some hE2 h
theorem l_M_workComponent_46 {k8 k8' : Option Nat → Int32 → Int32 → Int32 → Int32 → Int32 → g_St → Option (Unit × g_St)} (hk8 : ∀ (y1 : Int32) (y2 : Int32) (y3 : Int32) (y4 : Int32) (y5 : Int32) {t s : g_St} {o : Unit × g_St}, z_M t s → m_Fix s → k8 (some 1) y1 y2 y3 y4 y5 s = some o → ∃ o', k8' (some 1) y1 y2 y3 y4 y5 t = some o' ∧ o'.1 = o.1 ∧ z_M o'.2 o.2) (x1 : Int32) (x2 : Int32) (x4 : Int32) (x5 : Int32) (x0s : Int32) {t0 s0 : g_St} {o : Unit × g_St} (hE : z_M t0 s0) (hm : m_Fix s0) (h : f_M_workComponent_46 k8 (some 1) x1 x2 x4 x5 x0s s0 = some o) : ∃ o', f_M_workComponent_46 k8' (some 1) x1 x2 x4 x5 x0s t0 = some o' ∧ o'.1 = o.1 ∧ z_M o'.2 o.2 := by
  unfold f_M_workComponent_46 at h
  unfold f_M_workComponent_46
  refine lc_if h (fun h => ?_) (fun h => ?_)
  · refine lc_gR ((hE.fx hm) _ m_k4801).1 (hm _ m_k4801).1 h (fun h => ?_)
    refine lc_aI hE (m_arr_of m_k4801) h (fun i2 h => ?_)
    refine lc_if h (fun h => ?_) (fun h => ?_)
    · refine lc_c h (fun q hq => lc_nn (l_M_isRecursive _ hE hm (er_nn hq))) (fun i3 s4 t4 hc hE1 h => ?_)
      have hm1 := (w_M_isRecursive _ _ hm (er_nn hc)).fx hm
      refine lc_if h (fun h => ?_) (fun h => ?_)
      · exact hk8 _ _ _ _ _ hE1 hm1 h
      · refine lc_gR ((hE1.fx hm1) _ m_k1921).1 (hm1 _ m_k1921).1 h (fun h => ?_)
        refine lc_aI hE1 (m_arr_of m_k1921) h (fun i6 h => ?_)
        refine lc_if h (fun h => ?_) (fun h => ?_)
        · exact hk8 _ _ _ _ _ hE1 hm1 h
        · exact hk8 _ _ _ _ _ hE1 hm1 h
    · exact hk8 _ _ _ _ _ hE hm h
  · exact hk8 _ _ _ _ _ hE hm h
theorem l_M_workComponent_8 : ∀ (n : Nat) (x1 : Int32) (x2 : Int32) (x3 : Int32) (x4 : Int32) (x5 : Int32) {t0 s0 : g_St} {o : Unit × g_St}, z_M t0 s0 → m_Fix s0 → f_M_workComponent_8 n (some 1) x1 x2 x3 x4 x5 s0 = some o → ∃ o', f_M_workComponent_8 n (some 1) x1 x2 x3 x4 x5 t0 = some o' ∧ o'.1 = o.1 ∧ z_M o'.2 o.2 := by
  intro n
  induction n with
  | zero =>
    intro x1 x2 x3 x4 x5 t0 s0 o hE hm h
    rw [f_M_workComponent_8] at h
    cases h
  | succ n ih =>
    intro x1 x2 x3 x4 x5 t0 s0 o hE hm h
    rw [f_M_workComponent_8] at h
    rw [f_M_workComponent_8]
    refine lc_gI hE (by decide) h (fun i1 h => ?_)
    refine lc_if h (fun h => ?_) (fun h => ?_)
    · refine lc_gI hE (by decide) h (fun i2 h => ?_)
      exact l_M_workComponent_107 _ _ _ _ _ _ _ _ hE hm h
    · refine lc_if h (fun h => ?_) (fun h => ?_)
      · refine lc_gR ((hE.fx hm) _ m_k4801).1 (hm _ m_k4801).1 h (fun h => ?_)
        refine lc_aI hE (m_arr_of m_k4801) h (fun i4 h => ?_)
        refine lc_if h (fun h => ?_) (fun h => ?_)
        · refine lc_c h (fun q hq => lc_nn (l_M_isRecursive _ hE hm (er_nn hq))) (fun i5 s6 t6 hc hE1 h => ?_)
          have hm1 := (w_M_isRecursive _ _ hm (er_nn hc)).fx hm
          refine lc_if h (fun h => ?_) (fun h => ?_)
          · exact l_M_workComponent_46 ih _ _ _ _ _ hE1 hm1 h
          · exact l_M_workComponent_46 ih _ _ _ _ _ hE1 hm1 h
        · exact l_M_workComponent_46 ih _ _ _ _ _ hE hm h
      · exact l_M_workComponent_46 ih _ _ _ _ _ hE hm h
theorem l_M_workComponent (x1 : Int32) (x2 : Int32) {t0 s0 : g_St} {o : Unit × g_St} (hE : z_M t0 s0) (hm : m_Fix s0) (h : f_M_workComponent (some 1) x1 x2 s0 = some o) : ∃ o', f_M_workComponent (some 1) x1 x2 t0 = some o' ∧ o'.1 = o.1 ∧ z_M o'.2 o.2 := by
  unfold f_M_workComponent at h
  unfold f_M_workComponent
  exact l_M_workComponent_8 _ _ _ _ _ _ hE hm h
theorem l_M_run_192 {k174 k174' : Option Nat → Int32 → g_St → Option (Int32 × g_St)} (hk174 : ∀ (y1 : Int32) {t s : g_St} {o : Int32 × g_St}, z_M t s → m_Fix s → k174 (some 1) y1 s = some o → ∃ o', k174' (some 1) y1 t = some o' ∧ o'.1 = o.1 ∧ z_M o'.2 o.2) : ∀ (n : Nat) (x3 : Int32) (x4 : Int32) {t0 s0 : g_St} {o : Int32 × g_St}, z_M t0 s0 → m_Fix s0 → f_M_run_192 k174 n (some 1) x3 x4 s0 = some o → ∃ o', f_M_run_192 k174' n (some 1) x3 x4 t0 = some o' ∧ o'.1 = o.1 ∧ z_M o'.2 o.2 := by
  intro n
  induction n with
  | zero =>
    intro x3 x4 t0 s0 o hE hm h
    rw [f_M_run_192] at h
    cases h
  | succ n ih =>
    intro x3 x4 t0 s0 o hE hm h
    rw [f_M_run_192] at h
    rw [f_M_run_192]
    refine lc_gI hE (by decide) h (fun i1 h => ?_)
    refine lc_if h (fun h => ?_) (fun h => ?_)
    · exact hk174 _ hE hm h
    · refine lc_gR ((hE.fx hm) _ m_k5953).1 (hm _ m_k5953).1 h (fun h => ?_)
      refine lc_aI hE (m_arr_of m_k5953) h (fun i3 h => ?_)
      refine lc_gR ((hE.fx hm) _ m_k4993).1 (hm _ m_k4993).1 h (fun h => ?_)
      refine lc_aI hE (m_arr_of m_k4993) h (fun i5 h => ?_)
      refine lc_if h (fun h => ?_) (fun h => ?_)
      · refine lc_sI hE (m_arr_of m_k5953) h (fun j1 h => ?_)
        have hE1 := hE.sI 4500 j1 (i3 + 1)
        have hm1 := m_setAI 4500 j1 (i3 + 1) hm
        exact ih _ _ hE1 hm1 h
      · refine lc_sI hE (m_arr_of m_k5953) h (fun j2 h => ?_)
        have hE2 := hE.sI 4500 j2 (i3 + 0)
        have hm2 := m_setAI 4500 j2 (i3 + 0) hm
        exact ih _ _ hE2 hm2 h
theorem l_M_run_174 : ∀ (n : Nat) (x3 : Int32) {t0 s0 : g_St} {o : Int32 × g_St}, z_M t0 s0 → m_Fix s0 → f_M_run_174 n (some 1) x3 s0 = some o → ∃ o', f_M_run_174 n (some 1) x3 t0 = some o' ∧ o'.1 = o.1 ∧ z_M o'.2 o.2 := by
  intro n
  induction n with
  | zero =>
    intro x3 t0 s0 o hE hm h
    rw [f_M_run_174] at h
    cases h
  | succ n ih =>
    intro x3 t0 s0 o hE hm h
    rw [f_M_run_174] at h
    rw [f_M_run_174]
    refine lc_gI hE (by decide) h (fun i1 h => ?_)
    refine lc_if h (fun h => ?_) (fun h => ?_)
    · refine lc_gI hE (by decide) h (fun i2 h => ?_)
      exact lc_some hE h
    · refine lc_gR ((hE.fx hm) _ m_k5953).1 (hm _ m_k5953).1 h (fun h => ?_)
      refine lc_sI hE (m_arr_of m_k5953) h (fun j1 h => ?_)
      have hE1 := hE.sI 4500 j1 0
      have hm1 := m_setAI 4500 j1 0 hm
      exact l_M_run_192 ih _ _ _ hE1 hm1 h
theorem l_M_run_138  {t0 s0 : g_St} {o : Int32 × g_St} (hE : z_M t0 s0) (hm : m_Fix s0) (h : f_M_run_138 (some 1) s0 = some o) : ∃ o', f_M_run_138 (some 1) t0 = some o' ∧ o'.1 = o.1 ∧ z_M o'.2 o.2 := by
  unfold f_M_run_138 at h
  unfold f_M_run_138
  refine lc_gI hE (by decide) h (fun i1 h => ?_)
  refine lc_if h (fun h => ?_) (fun h => ?_)
  · refine lc_c h (fun q hq => lc_nn (l_M_sort hE hm (er_nn hq))) (fun v1 s3 t3 hc hE1 h => ?_)
    have hm1 := (w_M_sort _ hm (er_nn hc)).fx hm
    refine lc_pZ h (fun h => ?_)
    have hE2 := hE1.pI 1089 1
    have hm2 := m_setI 1089 1 hm1
    refine lc_gI hE2 (by decide) h (fun i5 h => ?_)
    refine lc_pI h (fun h => ?_)
    have hE3 := hE2.pI 6017 i5
    have hm3 := m_setI 6017 i5 hm2
    refine lc_gI hE3 (by decide) h (fun i7 h => ?_)
    refine lc_pI h (fun h => ?_)
    have hE4 := hE3.pI 5889 i7
    have hm4 := m_setI 5889 i7 hm3
    exact l_M_run_174 _ _ hE4 hm4 h
  · exact lc_some hE h
theorem l_M_run_100  {t0 s0 : g_St} {o : Int32 × g_St} (hE : z_M t0 s0) (hm : m_Fix s0) (h : f_M_run_100 (some 1) s0 = some o) : ∃ o', f_M_run_100 (some 1) t0 = some o' ∧ o'.1 = o.1 ∧ z_M o'.2 o.2 := by
  unfold f_M_run_100 at h
  unfold f_M_run_100
  refine lc_gR ((hE.fx hm) _ m_k2433).1 (hm _ m_k2433).1 h (fun h => ?_)
  refine lc_gI hE (by decide) h (fun i2 h => ?_)
  refine lc_aI hE (m_arr_of m_k2433) h (fun i3 h => ?_)
  refine lc_pI h (fun h => ?_)
  have hE1 := hE.pI 5633 i3
  have hm1 := m_setI 5633 i3 hm
  refine lc_gI hE1 (by decide) h (fun i5 h => ?_)
  refine lc_if h (fun h => ?_) (fun h => ?_)
  · refine lc_gI hE1 (by decide) h (fun i6 h => ?_)
    refine lc_gI hE1 (by decide) h (fun i7 h => ?_)
    refine lc_c h (fun q hq => lc_nn (l_M_workOut _ _ _ _ hE1 hm1 (er_nn hq))) (fun v2 s9 t9 hc hE2 h => ?_)
    have hm2 := (w_M_workOut _ _ _ _ _ hm1 (er_nn hc)).fx hm1
    exact l_M_run_138 hE2 hm2 h
  · exact l_M_run_138 hE1 hm1 h
theorem l_M_run_73 : ∀ (n : Nat) (x1 : Int32) (x3 : Int32) {t0 s0 : g_St} {o : Int32 × g_St}, z_M t0 s0 → m_Fix s0 → f_M_run_73 n (some 1) x1 x3 s0 = some o → ∃ o', f_M_run_73 n (some 1) x1 x3 t0 = some o' ∧ o'.1 = o.1 ∧ z_M o'.2 o.2 := by
  intro n
  induction n with
  | zero =>
    intro x1 x3 t0 s0 o hE hm h
    rw [f_M_run_73] at h
    cases h
  | succ n ih =>
    intro x1 x3 t0 s0 o hE hm h
    rw [f_M_run_73] at h
    rw [f_M_run_73]
    refine lc_gI hE (by decide) h (fun i1 h => ?_)
    refine lc_if h (fun h => ?_) (fun h => ?_)
    · exact l_M_run_100 hE hm h
    · refine lc_gI hE (by decide) h (fun i2 h => ?_)
      refine lc_if h (fun h => ?_) (fun h => ?_)
      · refine lc_c h (fun q hq => lc_nn (l_M_workComponent _ _ hE hm (er_nn hq))) (fun v1 s4 t4 hc hE1 h => ?_)
        have hm1 := (w_M_workComponent _ _ _ hm (er_nn hc)).fx hm
        exact ih _ _ hE1 hm1 h
      · exact l_M_run_100 hE hm h
theorem l_M_run_39 (x1 : Int32) (x2 : Int32) (x1s : Int32) {t0 s0 : g_St} {o : Int32 × g_St} (hE : z_M t0 s0) (hm : m_Fix s0) (h : f_M_run_39 (some 1) x1 x2 (some 1) x1s s0 = some o) : ∃ o', f_M_run_39 (some 1) x1 x2 (some 1) x1s t0 = some o' ∧ o'.1 = o.1 ∧ z_M o'.2 o.2 := by
  unfold f_M_run_39 at h
  unfold f_M_run_39
  refine lc_pI h (fun h => ?_)
  have hE1 := hE.pI 1 x1s
  have hm1 := m_setI 1 x1s hm
  refine lc_gI hE1 (by decide) h (fun i2 h => ?_)
  refine lc_if h (fun h => ?_) (fun h => ?_)
  · refine lc_pZ h (fun h => ?_)
    have hE2 := hE1.pI 1089 0
    have hm2 := m_setI 1089 0 hm1
    refine lc_pI h (fun h => ?_)
    have hE3 := hE2.pI 5441 x2
    have hm3 := m_setI 5441 x2 hm2
    refine lc_pI h (fun h => ?_)
    have hE4 := hE3.pI 4929 0
    have hm4 := m_setI 4929 0 hm3
    refine lc_pI h (fun h => ?_)
    have hE5 := hE4.pI 5377 0
    have hm5 := m_setI 5377 0 hm4
    exact l_M_run_73 _ _ _ hE5 hm5 h
  · exact lc_some hE1 h
theorem l_M_run (x1 : Int32) (x2 : Int32) {t0 s0 : g_St} {o : Int32 × g_St} (hE : z_M t0 s0) (hm : m_Fix s0) (h : f_M_run (some 1) x1 x2 s0 = some o) : ∃ o', f_M_run (some 1) x1 x2 t0 = some o' ∧ o'.1 = o.1 ∧ z_M o'.2 o.2 := by
  unfold f_M_run at h
  unfold f_M_run
  refine lc_if h (fun h => ?_) (fun h => ?_)
  · exact l_M_run_39 _ _ _ hE hm h
  · refine lc_if h (fun h => ?_) (fun h => ?_)
    · exact l_M_run_39 _ _ _ hE hm h
    · refine lc_if h (fun h => ?_) (fun h => ?_)
      · exact l_M_run_39 _ _ _ hE hm h
      · refine lc_if h (fun h => ?_) (fun h => ?_)
        · refine lc_gI hE (by decide) h (fun i1 h => ?_)
          refine lc_if h (fun h => ?_) (fun h => ?_)
          · exact l_M_run_39 _ _ _ hE hm h
          · exact l_M_run_39 _ _ _ hE hm h
        · exact l_M_run_39 _ _ _ hE hm h
theorem l_M_cell_37 (x1 : Int32) (x2 : Int32) (x1s : Int32) {t0 s0 : g_St} {o : Int64 × g_St} (hE : z_M t0 s0) (hm : m_Fix s0) (h : f_M_cell_37 (some 1) x1 x2 (some 1) x1s s0 = some o) : ∃ o', f_M_cell_37 (some 1) x1 x2 (some 1) x1s t0 = some o' ∧ o'.1 = o.1 ∧ z_M o'.2 o.2 := by
  unfold f_M_cell_37 at h
  unfold f_M_cell_37
  refine lc_pI h (fun h => ?_)
  have hE1 := hE.pI 1 x1s
  have hm1 := m_setI 1 x1s hm
  refine lc_gI hE1 (by decide) h (fun i2 h => ?_)
  refine lc_if h (fun h => ?_) (fun h => ?_)
  · refine lc_gR ((hE1.fx hm1) _ m_k5505).1 (hm1 _ m_k5505).1 h (fun h => ?_)
    refine lc_gR ((hE1.fx hm1) _ m_k5697).1 (hm1 _ m_k5697).1 h (fun h => ?_)
    refine lc_aI hE1 (m_arr_of m_k5697) h (fun i5 h => ?_)
    refine lc_aL hE1 (m_arr_of m_k5505) h (fun j6 h => ?_)
    exact lc_some hE1 h
  · exact lc_some hE1 h
theorem l_M_cell (x1 : Int32) (x2 : Int32) {t0 s0 : g_St} {o : Int64 × g_St} (hE : z_M t0 s0) (hm : m_Fix s0) (h : f_M_cell (some 1) x1 x2 s0 = some o) : ∃ o', f_M_cell (some 1) x1 x2 t0 = some o' ∧ o'.1 = o.1 ∧ z_M o'.2 o.2 := by
  unfold f_M_cell at h
  unfold f_M_cell
  refine lc_gI hE (by decide) h (fun i1 h => ?_)
  refine lc_if h (fun h => ?_) (fun h => ?_)
  · exact l_M_cell_37 _ _ _ hE hm h
  · refine lc_if h (fun h => ?_) (fun h => ?_)
    · exact l_M_cell_37 _ _ _ hE hm h
    · refine lc_gI hE (by decide) h (fun i2 h => ?_)
      refine lc_if h (fun h => ?_) (fun h => ?_)
      · exact l_M_cell_37 _ _ _ hE hm h
      · refine lc_if h (fun h => ?_) (fun h => ?_)
        · exact l_M_cell_37 _ _ _ hE hm h
        · refine lc_gI hE (by decide) h (fun i3 h => ?_)
          refine lc_if h (fun h => ?_) (fun h => ?_)
          · exact l_M_cell_37 _ _ _ hE hm h
          · exact l_M_cell_37 _ _ _ hE hm h
theorem l_M_size_25 (x1 : Int32) (x1s : Int32) {t0 s0 : g_St} {o : Int32 × g_St} (hE : z_M t0 s0) (hm : m_Fix s0) (h : f_M_size_25 (some 1) x1 (some 1) x1s s0 = some o) : ∃ o', f_M_size_25 (some 1) x1 (some 1) x1s t0 = some o' ∧ o'.1 = o.1 ∧ z_M o'.2 o.2 := by
  unfold f_M_size_25 at h
  unfold f_M_size_25
  refine lc_pI h (fun h => ?_)
  have hE1 := hE.pI 1 x1s
  have hm1 := m_setI 1 x1s hm
  refine lc_gI hE1 (by decide) h (fun i2 h => ?_)
  refine lc_if h (fun h => ?_) (fun h => ?_)
  · refine lc_gR ((hE1.fx hm1) _ m_k5953).1 (hm1 _ m_k5953).1 h (fun h => ?_)
    refine lc_aI hE1 (m_arr_of m_k5953) h (fun i4 h => ?_)
    exact lc_some hE1 h
  · exact lc_some hE1 h
theorem l_M_size (x1 : Int32) {t0 s0 : g_St} {o : Int32 × g_St} (hE : z_M t0 s0) (hm : m_Fix s0) (h : f_M_size (some 1) x1 s0 = some o) : ∃ o', f_M_size (some 1) x1 t0 = some o' ∧ o'.1 = o.1 ∧ z_M o'.2 o.2 := by
  unfold f_M_size at h
  unfold f_M_size
  refine lc_gI hE (by decide) h (fun i1 h => ?_)
  refine lc_if h (fun h => ?_) (fun h => ?_)
  · exact l_M_size_25 _ _ hE hm h
  · refine lc_if h (fun h => ?_) (fun h => ?_)
    · exact l_M_size_25 _ _ hE hm h
    · refine lc_gI hE (by decide) h (fun i2 h => ?_)
      refine lc_if h (fun h => ?_) (fun h => ?_)
      · exact l_M_size_25 _ _ hE hm h
      · exact l_M_size_25 _ _ hE hm h
theorem l_M_rounds_39 (x1 : Int32) (x2 : Int32) (x1s : Int32) {t0 s0 : g_St} {o : Int32 × g_St} (hE : z_M t0 s0) (hm : m_Fix s0) (h : f_M_rounds_39 (some 1) x1 x2 (some 1) x1s s0 = some o) : ∃ o', f_M_rounds_39 (some 1) x1 x2 (some 1) x1s t0 = some o' ∧ o'.1 = o.1 ∧ z_M o'.2 o.2 := by
  unfold f_M_rounds_39 at h
  unfold f_M_rounds_39
  refine lc_pI h (fun h => ?_)
  have hE1 := hE.pI 1 x1s
  have hm1 := m_setI 1 x1s hm
  refine lc_gI hE1 (by decide) h (fun i2 h => ?_)
  refine lc_if h (fun h => ?_) (fun h => ?_)
  · refine lc_if h (fun h => ?_) (fun h => ?_)
    · refine lc_gR ((hE1.fx hm1) _ m_k5761).1 (hm1 _ m_k5761).1 h (fun h => ?_)
      refine lc_aI hE1 (m_arr_of m_k5761) h (fun i6 h => ?_)
      exact lc_some hE1 h
    · refine lc_gR ((hE1.fx hm1) _ m_k5825).1 (hm1 _ m_k5825).1 h (fun h => ?_)
      refine lc_aI hE1 (m_arr_of m_k5825) h (fun i4 h => ?_)
      exact lc_some hE1 h
  · exact lc_some hE1 h
theorem l_M_rounds (x1 : Int32) (x2 : Int32) {t0 s0 : g_St} {o : Int32 × g_St} (hE : z_M t0 s0) (hm : m_Fix s0) (h : f_M_rounds (some 1) x1 x2 s0 = some o) : ∃ o', f_M_rounds (some 1) x1 x2 t0 = some o' ∧ o'.1 = o.1 ∧ z_M o'.2 o.2 := by
  unfold f_M_rounds at h
  unfold f_M_rounds
  refine lc_gI hE (by decide) h (fun i1 h => ?_)
  refine lc_if h (fun h => ?_) (fun h => ?_)
  · exact l_M_rounds_39 _ _ _ hE hm h
  · refine lc_if h (fun h => ?_) (fun h => ?_)
    · exact l_M_rounds_39 _ _ _ hE hm h
    · refine lc_gI hE (by decide) h (fun i2 h => ?_)
      refine lc_if h (fun h => ?_) (fun h => ?_)
      · exact l_M_rounds_39 _ _ _ hE hm h
      · refine lc_if h (fun h => ?_) (fun h => ?_)
        · exact l_M_rounds_39 _ _ _ hE hm h
        · refine lc_gR ((hE.fx hm) _ m_k5761).1 (hm _ m_k5761).1 h (fun h => ?_)
          refine lc_aI hE (m_arr_of m_k5761) h (fun i4 h => ?_)
          refine lc_if h (fun h => ?_) (fun h => ?_)
          · exact l_M_rounds_39 _ _ _ hE hm h
          · exact l_M_rounds_39 _ _ _ hE hm h
