/-! THE CHECK: a part is resolved (reference), whole -/
section
variable {n : Nat} {kd pl nw nv : Nat → Nat} {wd vl : Nat → Int64}
theorem M_ck.pv {u : g_St} {C : Nat → Nat} {x : z_Qu} {tc : Nat} {cols : Nat → Nat} (K : M_ck n kd pl vl u C x tc cols) (hp : ∀ k, k < x.2.1.length → z_pnm n kd (x.2.1.getD k z_pa0)) {k : Nat} (hk : k < x.2.1.length) : M_pv n kd pl vl u k (x.2.1.getD k z_pa0) := by
  have Q := K.2.2.1
  have q4 := Q.2.2.2.1
  obtain ⟨a1, a2, a3, a4, a5, a6, a7, a8, a9, a10, a11, a12, a13⟩ := Q.2.2.2.2.1 k hk
  exact ⟨K.1, K.2.1, by omega, hp k hk, a12, a2, a3, a4, a10, a11⟩
theorem b_rp4 (NM : z_NM n kd wd vl nw nv) (H : z_H n kd) (hpl : ∀ i, i ≤ n → pl i ≤ 400) {u : g_St} {k : Nat} {X : z_Pa} (V : M_pv n kd pl vl u k X) {a : Option (Nat × Nat)} (ha : M_nt u a) : ∃ u', f_M_resolvePart_134 (some 1) (Int32.ofNat k) u = some ((), u') ∧ M_nt u' (z_pn4 nw pl X a) ∧ z_W [833, 897] [1812] u u' ∧ (∀ y, X.2.2.2.2.2 = some y → g_AI u' 1812 k = Int32.ofNat ((z_own1 nw X y).getD 0)) ∧ ∀ j, j ≠ k → g_AI u' 1812 j = g_AI u 1812 j := by
  obtain ⟨hm, tk, k4, nm, l3, v1, v2, v3, v4, v5⟩ := id V
  have hn := H.2.1
  unfold f_M_resolvePart_134
  rw [x_gR, (m_at hm m_k1601).1, x_aI (by omega) (by rw [(m_at hm m_k1601).2]; exact k4)]
  cases hx : X.2.2.2.2.2 with
  | none =>
    rw [hx] at v5
    rw [show g_AI u 1620 k = -1 from v5, if_pos rfl]
    exact ⟨u, rfl, by unfold z_pn4; rw [hx]; exact ha, z_W.re, (fun y e => by cases e), fun _ _ => rfl⟩
  | some y =>
    rw [hx] at v5
    obtain ⟨ny, ny2⟩ := nm.2.2.2 y hx
    have := ny.1
    have := ny2.1
    obtain ⟨s7, o1, o2, o3⟩ := b_own NM H hpl V ny ha
    have hm7 := o3.fx hm
    obtain ⟨s8, e8⟩ : ∃ s8, s8 = g_setAI s7 1812 k (Int32.ofNat ((z_own1 nw X y).getD 0)) := ⟨_, rfl⟩
    have W8 : z_W [833, 897] [1812] u s8 := by rw [e8]; exact (o3.mono (fun _ h => h) (fun _ h => by cases h)).sI (by decide) _ _
    have V8 := V.W W8 (fun a h => by rw [List.mem_singleton] at h; exact Or.inr h)
    have hm8 := V8.1
    have v58 := V8.2.2.2.2.2.2.2.2.2
    rw [hx] at v58
    have a8 : M_nt s8 (z_nti2 (z_own1 nw X y).isNone a (pl y)) := by rw [e8]; exact o2
    obtain ⟨u', f1, f2, f3⟩ := b_frs NM H hpl V8 ny2 (Nat.le_refl _) true a8
    have f1' : f_M_fresh (some 1) (Int32.ofNat k) (Int32.ofNat (y + 2)) (Int32.ofNat X.2.1.length) 1 s8 = some ((), u') := f1
    rw [v5.1, if_neg (z_oc_n (by omega)), x_gR, (m_at hm m_k1793).1, x_gR, (m_at hm m_k1601).1, x_aI (by omega) (by rw [(m_at hm m_k1601).2]; exact k4), v5.1, x_nn, o1, x_c, x_sI (by omega) (by rw [(m_at hm7 m_k1793).2]; exact k4), ← e8, x_gR, (m_at hm8 m_k1665).1, x_aI (by omega) (by rw [(m_at hm8 m_k1665).2]; exact k4), v58.2, x_gR, (m_at hm8 m_k1281).1, x_aI (by omega) (by rw [(m_at hm8 m_k1281).2]; exact k4), V8.2.2.2.2.2.2.1, x_nn, f1', x_c]
    have ar : g_AI u' 1812 = g_AI s8 1812 := (f3.2.2.2.2.2.2.2.2 1812 (by decide)).1
    refine ⟨u', rfl, by unfold z_pn4; rw [hx]; exact f2, W8.trans (f3.mono (fun _ h => h) (fun _ h => by cases h)), fun z e => ?_, fun j hj => ?_⟩
    · cases e
      rw [ar, e8, x_AI_AI, if_pos ⟨rfl, rfl⟩]
    · rw [ar, e8, x_AI_AI, if_neg (fun q => hj q.2), (o3.2.2.2.2.2.2.2.2 1812 (by decide)).1]
theorem b_rp3 (NM : z_NM n kd wd vl nw nv) (H : z_H n kd) (hpl : ∀ i, i ≤ n → pl i ≤ 400) {u : g_St} {k : Nat} {X : z_Pa} (V : M_pv n kd pl vl u k X) {a : Option (Nat × Nat)} (ha : M_nt u a) (f : Nat) {i : Nat} (hi : X.2.1.length ≤ i) (hi2 : i < 10) : ∃ u', f_M_resolvePart_57 (f + 1) (some 1) (Int32.ofNat k) (Int32.ofNat i) u = some ((), u') ∧ M_nt u' (z_pn4 nw pl X (z_pn3 nw pl X a)) ∧ z_W [833, 897] [1748, 1812] u u' ∧ M_rpa nw u' k X ∧ ∀ j, j ≠ k → g_AI u' 1748 j = g_AI u 1748 j ∧ g_AI u' 1812 j = g_AI u 1812 j := by
  obtain ⟨hm, tk, k4, nm, l3, v1, v2, v3, v4, v5⟩ := id V
  have hn := H.2.1
  rw [f_M_resolvePart_57, x_gR, (m_at hm m_k1281).1, x_aI (by omega) (by rw [(m_at hm m_k1281).2]; exact k4), v2, if_pos (by rw [x_le (by omega) (by omega)]; omega), x_gR, (m_at hm m_k1409).1, x_aI (by omega) (by rw [(m_at hm m_k1409).2]; exact k4)]
  cases hx : X.2.2.2.2.1 with
  | none =>
    rw [hx] at v4
    rw [show g_AI u 1428 k = 0 from v4, if_pos (by decide)]
    obtain ⟨u', p1, p2, p3, p4, p5⟩ := b_rp4 NM H hpl V ha
    have ar : g_AI u' 1748 = g_AI u 1748 := (p3.2.2.2.2.2.2.2.2 1748 (by decide)).1
    exact ⟨u', p1, by unfold z_pn3; rw [hx]; exact p2, p3.mono (fun _ h => h) (fun _ h => List.mem_cons_of_mem _ h), ⟨(fun y e => by rw [hx] at e; cases e), p4⟩, fun j hj => ⟨by rw [ar], p5 j hj⟩⟩
  | some y =>
    rw [hx] at v4
    obtain ⟨ny, ny2⟩ := nm.2.2.1 y hx
    have := ny.1
    have := ny2.1
    obtain ⟨s7, o1, o2, o3⟩ := b_own NM H hpl V ny ha
    have hm7 := o3.fx hm
    obtain ⟨s8, e8⟩ : ∃ s8, s8 = g_setAI s7 1748 k (Int32.ofNat ((z_own1 nw X (y.2 + 3)).getD 0)) := ⟨_, rfl⟩
    have W8 : z_W [833, 897] [1748] u s8 := by rw [e8]; exact (o3.mono (fun _ h => h) (fun _ h => by cases h)).sI (by decide) _ _
    have V8 := V.W W8 (fun a h => by rw [List.mem_singleton] at h; exact Or.inl h)
    have hm8 := V8.1
    have v48 := V8.2.2.2.2.2.2.2.2.1
    rw [hx] at v48
    have a8 : M_nt s8 (z_nti2 (z_own1 nw X (y.2 + 3)).isNone a (pl (y.2 + 3))) := by rw [e8]; exact o2
    obtain ⟨s9, f1, f2, f3⟩ := b_frs NM H hpl V8 ny2 (Nat.le_refl _) false a8
    have f1' : f_M_fresh (some 1) (Int32.ofNat k) (Int32.ofNat (y.2 + 5)) (Int32.ofNat X.2.1.length) 0 s8 = some ((), s9) := f1
    have V9 := V8.W f3 (fun a h => by cases h)
    obtain ⟨u', p1, p2, p3, p4, p5⟩ := b_rp4 NM H hpl V9 f2
    rw [v4.1, if_neg (by cases y.1 <;> decide), x_gR, (m_at hm m_k1729).1, x_gR, (m_at hm m_k1473).1, x_aI (by omega) (by rw [(m_at hm m_k1473).2]; exact k4), v4.2.1, x_nn, o1, x_c, x_sI (by omega) (by rw [(m_at hm7 m_k1729).2]; exact k4), ← e8, x_gR, (m_at hm8 m_k1537).1, x_aI (by omega) (by rw [(m_at hm8 m_k1537).2]; exact k4), v48.2.2, x_gR, (m_at hm8 m_k1281).1, x_aI (by omega) (by rw [(m_at hm8 m_k1281).2]; exact k4), V8.2.2.2.2.2.2.1, x_nn, f1', x_c, p1]
    have W9 : z_W [833, 897] [1748] u s9 := W8.trans (f3.mono (fun _ h => h) (fun _ h => by cases h))
    have ar : g_AI u' 1748 = g_AI s8 1748 := ((p3.2.2.2.2.2.2.2.2 1748 (by decide)).1).trans (f3.2.2.2.2.2.2.2.2 1748 (by decide)).1
    refine ⟨u', rfl, by unfold z_pn3; rw [hx]; exact p2, (W9.mono (fun _ h => h) (fun a h => by rw [List.mem_singleton] at h; rw [h]; decide)).trans (p3.mono (fun _ h => h) (fun _ h => List.mem_cons_of_mem _ h)), ⟨fun z e => ?_, p4⟩, fun j hj => ⟨?_, ?_⟩⟩
    · rw [hx] at e
      cases e
      rw [ar, e8, x_AI_AI, if_pos ⟨rfl, rfl⟩]
    · rw [ar, e8, x_AI_AI, if_neg (fun q => hj q.2), (o3.2.2.2.2.2.2.2.2 1748 (by decide)).1]
    · rw [p5 j hj, (W9.2.2.2.2.2.2.2.2 1812 (by decide)).1]
theorem b_rpa (NM : z_NM n kd wd vl nw nv) (H : z_H n kd) (hpl : ∀ i, i ≤ n → pl i ≤ 400) {u : g_St} {C : Nat → Nat} {x : z_Qu} {tc : Nat} {cols : Nat → Nat} (K : M_ck n kd pl vl u C x tc cols) (hp : ∀ k, k < x.2.1.length → z_pnm n kd (x.2.1.getD k z_pa0)) {k : Nat} (hk : k < x.2.1.length) {a : Option (Nat × Nat)} (ha : M_nt u a) : ∃ u', f_M_resolvePart (some 1) (Int32.ofNat k) u = some ((), u') ∧ M_nt u' (z_pnt nw pl x.2.1 k a) ∧ z_W [833, 897] [1748, 1812] u u' ∧ M_rpa nw u' k (x.2.1.getD k z_pa0) ∧ ∀ j, j ≠ k → g_AI u' 1748 j = g_AI u 1748 j ∧ g_AI u' 1812 j = g_AI u 1812 j := by
  have hn := H.2.1
  have q4 := K.2.2.1.2.2.2.1
  have k1 : ∀ d i f u a, i + d = k → d < f → (∀ q, q < x.2.1.length → M_pv n kd pl vl u q (x.2.1.getD q z_pa0)) → M_nt u a → ∃ u', f_M_resolvePart_2 f (some 1) (Int32.ofNat k) (Int32.ofNat i) u = f_M_resolvePart_57 200000 (some 1) (Int32.ofNat k) 1 u' ∧ M_nt u' (z_lp (fun a q => z_nti2 (decide (nw (x.2.1.getD q z_pa0).1 = nw (x.2.1.getD k z_pa0).1)) a (pl (x.2.1.getD k z_pa0).1)) d i a) ∧ z_W [833, 897] [] u u' := by
    intro d
    induction d with
    | zero =>
      intro i f u a h1 h2 V ha
      obtain ⟨f, rfl⟩ : ∃ m, f = m + 1 := ⟨f - 1, by omega⟩
      rw [f_M_resolvePart_2, if_pos (by rw [x_le (by omega) (by omega)]; omega)]
      exact ⟨u, rfl, ha, z_W.re⟩
    | succ d ih =>
      intro i f u a h1 h2 V ha
      obtain ⟨f, rfl⟩ : ∃ m, f = m + 1 := ⟨f - 1, by omega⟩
      have Vi := V i (by omega)
      have Vk := V k hk
      have hm := Vk.1
      have tk := Vk.2.1
      have ni := Vi.2.2.2.1.1
      have nk := Vk.2.2.2.1.1
      have := ni.1
      have := nk.1
      have e := NM.eq ni nk
      obtain ⟨u1, n1, n2, n3⟩ := b_nt ha (m := 2) (p := pl (x.2.1.getD k z_pa0).1) (by decide) (by decide) (hpl _ (by omega))
      rw [f_M_resolvePart_2, if_neg (by rw [x_le (by omega) (by omega)]; omega), x_gR, (m_at hm m_k769).1, x_gR, (m_at hm m_k1217).1, x_aI (by omega) (by rw [(m_at hm m_k1217).2]; omega), Vi.2.2.2.2.2.1, z_tkv hm tk H ni.1, x_gR, (m_at hm m_k769).1, x_gR, (m_at hm m_k1217).1, x_aI (by omega) (by rw [(m_at hm m_k1217).2]; omega), Vk.2.2.2.2.2.1, z_tkv hm tk H nk.1]
      by_cases w : nw (x.2.1.getD i z_pa0).1 = nw (x.2.1.getD k z_pa0).1
      · rw [if_pos (by rw [e]; exact w), x_gR, (m_at hm m_k705).1, x_gR, (m_at hm m_k1217).1, x_aI (by omega) (by rw [(m_at hm m_k1217).2]; omega), Vk.2.2.2.2.2.1, x_aI (by omega) (by rw [(m_at hm m_k705).2]; omega), (tk _ (by omega)).2.1, x_nn, show (2 : Int32) = Int32.ofNat 2 from rfl, n1, x_c, x_p1]
        obtain ⟨u', g1, g2, g3⟩ := ih (i + 1) f u1 _ (by omega) (by omega) (fun q hq => (V q hq).W n3 (fun a h => by cases h)) n2
        refine ⟨u', g1, ?_, n3.trans g3⟩
        rw [z_lp, decide_eq_true w]
        exact g2
      · rw [if_neg (by rw [e]; exact w), x_p1]
        obtain ⟨u', g1, g2, g3⟩ := ih (i + 1) f u _ (by omega) (by omega) V ha
        refine ⟨u', g1, ?_, g3⟩
        rw [z_lp, decide_eq_false w]
        exact g2
  have k2 : ∀ d i f u a, (x.2.1.getD k z_pa0).2.1.length - i = d → i < 10 → d < f → M_pv n kd pl vl u k (x.2.1.getD k z_pa0) → M_nt u a → ∃ u', f_M_resolvePart_57 f (some 1) (Int32.ofNat k) (Int32.ofNat i) u = some ((), u') ∧ M_nt u' (z_pn4 nw pl (x.2.1.getD k z_pa0) (z_pn3 nw pl (x.2.1.getD k z_pa0) (z_lp (fun a i => z_nti2 (z_frs nw (x.2.1.getD k z_pa0) ((x.2.1.getD k z_pa0).2.1.getD i 0) i false) a (pl ((x.2.1.getD k z_pa0).2.1.getD i 0))) d i a))) ∧ z_W [833, 897] [1748, 1812] u u' ∧ M_rpa nw u' k (x.2.1.getD k z_pa0) ∧ ∀ j, j ≠ k → g_AI u' 1748 j = g_AI u 1748 j ∧ g_AI u' 1812 j = g_AI u 1812 j := by
    generalize x.2.1.getD k z_pa0 = X
    intro d
    induction d with
    | zero =>
      intro i f u a h1 h0 h2 V ha
      obtain ⟨f, rfl⟩ : ∃ m, f = m + 1 := ⟨f - 1, by omega⟩
      exact b_rp3 NM H hpl V ha f (by omega) h0
    | succ d ih =>
      intro i f u a h1 h0 h2 V ha
      obtain ⟨f, rfl⟩ : ∃ m, f = m + 1 := ⟨f - 1, by omega⟩
      obtain ⟨hm, tk, k4, nm, l3, v1, v2, v3, v4, v5⟩ := id V
      have hi : i < X.2.1.length := by omega
      have hy := nm.2.1 i hi
      have := hy.1
      obtain ⟨s9, f1, f2, f3⟩ := b_frs NM H hpl V hy (by omega : i ≤ X.2.1.length) false ha
      have f1' : f_M_fresh (some 1) (Int32.ofNat k) (Int32.ofNat (X.2.1.getD i 0)) (Int32.ofNat i) 0 u = some ((), s9) := f1
      rw [f_M_resolvePart_57, x_gR, (m_at hm m_k1281).1, x_aI (by omega) (by rw [(m_at hm m_k1281).2]; exact k4), v2, if_neg (by rw [x_le (by omega) (by omega)]; omega), x_gR, (m_at hm m_k1345).1, show (3 : Int32) * Int32.ofNat k + Int32.ofNat i = Int32.ofNat (3 * k + i) from (by rw [Int32.ofNat_add, Int32.ofNat_mul]; rfl), x_aI (by omega) (by rw [(m_at hm m_k1345).2]; omega), v3 i hi, x_nn, f1', x_c, x_p1]
      obtain ⟨u', g1, g2, g3, g4, g5⟩ := ih (i + 1) f s9 _ (by omega) (by omega) (by omega) (V.W f3 (fun a h => by cases h)) f2
      have A := fun (b : Nat) (h : b ∉ ([] : List Nat)) => (f3.2.2.2.2.2.2.2.2 b h).1
      exact ⟨u', g1, g2, (f3.mono (fun _ h => h) (fun _ h => by cases h)).trans g3, g4, fun j hj => ⟨by rw [(g5 j hj).1, A 1748 (by decide)], by rw [(g5 j hj).2, A 1812 (by decide)]⟩⟩
  obtain ⟨u1, a1, a2, a3⟩ := k1 k 0 200000 u a (by omega) (by omega) (fun q hq => K.pv hp hq) ha
  obtain ⟨u', b1, b2, b3, b4, b5⟩ := k2 _ 1 200000 u1 _ rfl (by omega) (by have := (K.pv hp hk).2.2.2.2.1; omega) ((K.pv hp hk).W a3 (fun a h => by cases h)) a2
  have A := fun (b : Nat) (h : b ∉ ([] : List Nat)) => (a3.2.2.2.2.2.2.2.2 b h).1
  refine ⟨u', ?_, b2, (a3.mono (fun _ h => h) (fun _ h => by cases h)).trans b3, b4, fun j hj => ⟨by rw [(b5 j hj).1, A 1748 (by decide)], by rw [(b5 j hj).2, A 1812 (by decide)]⟩⟩
  unfold f_M_resolvePart
  exact a1.trans b1
end
