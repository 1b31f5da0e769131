/-! CALLS: what they have in common -/
theorem x_cCl {α β : Type} (v : α) (s : g_St) (F : α → g_St → Option β) (Hd : Nat → g_St → Option β) : g_cC (some (.inl v, s)) F Hd = F v s := rfl
theorem x_cCr {α β : Type} (e : Nat) (s : g_St) (F : α → g_St → Option β) (Hd : Nat → g_St → Option β) : g_cC (some (.inr e, s)) F Hd = Hd e s := rfl
theorem z_sL0 {α : Type} {s : g_St} (h : g_ln s 1237 = 1) (x : Int64) (F : g_St → Option α) : g_sL s (some 1237) 0 x F = F (g_setAL s 1237 0 x) := x_sL (i := 0) (by decide) (by omega) x F
section
variable {wI wA : List Nat} {n : Nat} {u s g g' : g_St} {nT : Nat} {cols cnt : Nat → Nat} {cell : Nat → Nat → Nat → Int64} {ca : Nat → Nat} {len : Nat} {T : Nat → Nat}
theorem I_ok {f m : g_St → Option (Int32 × g_St)} (L : ∀ {t0 s0 : g_St} {o : Int32 × g_St}, z_M t0 s0 → m_Fix s0 → m s0 = some o → ∃ o', m t0 = some o' ∧ o'.1 = o.1 ∧ z_M o'.2 o.2) (Wf : ∀ (s0 : g_St) {o : Int32 × g_St}, m_Fix s0 → m s0 = some o → z_W wI wA s0 o.2) (hA : ∀ a ∈ wA, a ∈ m_arr) {i : Int32} (hf : f u = some (0, g_setAL s 1237 0 i.toInt64)) (hz : z_M s g) (F : m_Fix g) (hm : m g = some (i, g')) (h1 : g_I g' 1 1 = 0) (hJ : J (n + 1) s g' nT cols cnt cell ca len T) : ∃ k b u1 u2, f u = some (k, u1) ∧ m u1 = some (b, u2) ∧ g_I u2 1 1 = k ∧ (k = 0 → 0 < g_ln u2 1237 ∧ g_AL u2 1237 0 = b.toInt64) ∧ Inv (n + 1) u2 := by
  obtain ⟨u2, a1, a2, ⟨a3, a4⟩, a5⟩ := I_step L Wf hA (hz.out i.toInt64) F hm (hJ.out _)
  have l1 : g_ln (g_setAL s 1237 0 i.toInt64) 1237 = 1 := hJ.1.1.2.2.2.2.2
  exact ⟨0, i, _, u2, hf, a1, by rw [a2]; exact h1, fun _ => ⟨by rw [a3, l1]; decide, by rw [a4, x_AL_AL, if_pos ⟨rfl, rfl⟩]⟩, a5⟩
theorem I_okL {f : g_St → Option (Int32 × g_St)} {m : g_St → Option (Int64 × g_St)} (L : ∀ {t0 s0 : g_St} {o : Int64 × g_St}, z_M t0 s0 → m_Fix s0 → m s0 = some o → ∃ o', m t0 = some o' ∧ o'.1 = o.1 ∧ z_M o'.2 o.2) (Wf : ∀ (s0 : g_St) {o : Int64 × g_St}, m_Fix s0 → m s0 = some o → z_W wI wA s0 o.2) (hA : ∀ a ∈ wA, a ∈ m_arr) {i : Int64} (hf : f u = some (0, g_setAL s 1237 0 i)) (hz : z_M s g) (F : m_Fix g) (hm : m g = some (i, g')) (h1 : g_I g' 1 1 = 0) (hJ : J (n + 1) s g' nT cols cnt cell ca len T) : ∃ k b u1 u2, f u = some (k, u1) ∧ m u1 = some (b, u2) ∧ g_I u2 1 1 = k ∧ (k = 0 → 0 < g_ln u2 1237 ∧ g_AL u2 1237 0 = b) ∧ Inv (n + 1) u2 := by
  obtain ⟨u2, a1, a2, ⟨a3, a4⟩, a5⟩ := I_step L Wf hA (hz.out i) F hm (hJ.out _)
  have l1 : g_ln (g_setAL s 1237 0 i) 1237 = 1 := hJ.1.1.2.2.2.2.2
  exact ⟨0, i, _, u2, hf, a1, by rw [a2]; exact h1, fun _ => ⟨by rw [a3, l1]; decide, by rw [a4, x_AL_AL, if_pos ⟨rfl, rfl⟩]⟩, a5⟩
/-- a call that throws -/
theorem I_th {f m : g_St → Option (Int32 × g_St)} (L : ∀ {t0 s0 : g_St} {o : Int32 × g_St}, z_M t0 s0 → m_Fix s0 → m s0 = some o → ∃ o', m t0 = some o' ∧ o'.1 = o.1 ∧ z_M o'.2 o.2) (Wf : ∀ (s0 : g_St) {o : Int32 × g_St}, m_Fix s0 → m s0 = some o → z_W wI wA s0 o.2) (hA : ∀ a ∈ wA, a ∈ m_arr) {k b : Int32} (hf : f u = some (k, s)) (hk : ¬ k = 0) (hz : z_M s g) (F : m_Fix g) (hm : m g = some (b, g')) (h1 : g_I g' 1 1 = k) (hJ : J (n + 1) s g' nT cols cnt cell ca len T) : ∃ k b u1 u2, f u = some (k, u1) ∧ m u1 = some (b, u2) ∧ g_I u2 1 1 = k ∧ (k = 0 → 0 < g_ln u2 1237 ∧ g_AL u2 1237 0 = b.toInt64) ∧ Inv (n + 1) u2 := by
  obtain ⟨u2, a1, a2, -, a5⟩ := I_step L Wf hA hz F hm hJ
  exact ⟨k, b, s, u2, hf, a1, by rw [a2]; exact h1, fun e => absurd e hk, a5⟩
theorem I_no {f m : g_St → Option (Int32 × g_St)} (L : ∀ {t0 s0 : g_St} {o : Int32 × g_St}, z_M t0 s0 → m_Fix s0 → m s0 = some o → ∃ o', m t0 = some o' ∧ o'.1 = o.1 ∧ z_M o'.2 o.2) (Wf : ∀ (s0 : g_St) {o : Int32 × g_St}, m_Fix s0 → m s0 = some o → z_W wI wA s0 o.2) (hA : ∀ a ∈ wA, a ∈ m_arr) {k b : Int32} (hf : f u = some (k, g_bump u 8 512)) (hk : ¬ k = 0) (hz : z_M u g) (hm : m g = some (b, g_setI g 1 1 k)) (hJ : J n u g nT cols cnt cell ca len T) : ∃ k b u1 u2, f u = some (k, u1) ∧ m u1 = some (b, u2) ∧ g_I u2 1 1 = k ∧ (k = 0 → 0 < g_ln u2 1237 ∧ g_AL u2 1237 0 = b.toInt64) ∧ Inv (n + 1) u2 := I_th L Wf hA hf hk (hz.bump 8 512) hJ.2.1.1 hm (x_Iss _ _ _ _) (hJ.thr.m1 k)
theorem I_noL {f : g_St → Option (Int32 × g_St)} {m : g_St → Option (Int64 × g_St)} (L : ∀ {t0 s0 : g_St} {o : Int64 × g_St}, z_M t0 s0 → m_Fix s0 → m s0 = some o → ∃ o', m t0 = some o' ∧ o'.1 = o.1 ∧ z_M o'.2 o.2) (Wf : ∀ (s0 : g_St) {o : Int64 × g_St}, m_Fix s0 → m s0 = some o → z_W wI wA s0 o.2) (hA : ∀ a ∈ wA, a ∈ m_arr) {k : Int32} {b : Int64} (hf : f u = some (k, g_bump u 8 512)) (hk : ¬ k = 0) (hz : z_M u g) (hm : m g = some (b, g_setI g 1 1 k)) (hJ : J n u g nT cols cnt cell ca len T) : ∃ k b u1 u2, f u = some (k, u1) ∧ m u1 = some (b, u2) ∧ g_I u2 1 1 = k ∧ (k = 0 → 0 < g_ln u2 1237 ∧ g_AL u2 1237 0 = b) ∧ Inv (n + 1) u2 := by
  obtain ⟨u2, a1, a2, -, a5⟩ := I_step L Wf hA (hz.bump 8 512) hJ.2.1.1 hm (hJ.thr.m1 k)
  exact ⟨k, b, _, u2, hf, a1, by rw [a2]; exact x_Iss _ _ _ _, fun e => absurd e hk, a5⟩
end
/-- fault -/
theorem op_fault : z_opB 512 Inv (f_E_fault (some 0)) (f_M_fault (some 1)) := by
  rintro n u hn ⟨g, nT, cols, cnt, cell, ca, len, T, hz, hJ⟩
  have e : g_I (g_setI g 1 1 0) 961 1 = g_I u 384 0 := by rw [x_I_I, if_neg (by decide)]; exact hJ.2.2.2.2.1.symm
  have hm : f_M_fault (some 1) g = some (g_I u 384 0, g_setI g 1 1 0) := by
    unfold f_M_fault
    rw [x_pI, x_gI, e]
  obtain ⟨u2, a1, a2, -, a5⟩ := I_step (m := f_M_fault (some 1)) (fun a b c => l_M_fault a b c) (fun s o a b => w_M_fault s a b) (by decide) hz hJ.2.1.1 hm (hJ.up.m1 0)
  exact ⟨g_I u 384 0, u, u2, by unfold f_E_fault; rw [x_gI], a1, a5⟩
