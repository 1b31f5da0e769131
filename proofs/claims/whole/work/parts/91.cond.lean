/-! THE REFERENCE READS A COMPARISON -/
abbrev z_Bs : Type := z_Ex × Nat × z_Ex
def z_opr (kd : Nat → Nat) (r : z_P) : z_P := match r with
  | .inl q => .inl q
  | .inr p => if kd p = 31 ∨ kd p = 32 ∨ kd p = 33 ∨ kd p = 35 then .inr (p + 1) else .inl p
def z_pk (r : z_P) : Nat := match r with
  | .inl q => q
  | .inr p => p
def z_cor (kd : Nat → Nat) (r : z_P) : z_Bs × z_P :=
  if (z_skr kd 9 (z_exr kd r).2).1 = true then (((z_exr kd r).1, 9, []), z_ndr kd 10 (z_skr kd 9 (z_exr kd r).2).2)
  else (((z_exr kd r).1, kd (z_pk (z_exr kd r).2), (z_exr kd (z_opr kd (z_exr kd r).2)).1), (z_exr kd (z_opr kd (z_exr kd r).2)).2)
section
variable {n : Nat} {kd pl : Nat → Nat} {vl : Nat → Int64}
theorem z_ps.pos {u : g_St} {r : z_P} (h : z_ps u pl n r) : g_I u 577 1 = Int32.ofNat (z_pk r) ∧ z_pk r ≤ n := by
  cases r with
  | inl q => exact ⟨h.1.2.2, h.2⟩
  | inr p => exact ⟨h.1.2, h.2⟩
theorem z_ps.of {u v : g_St} {r : z_P} (h : z_ps u pl n r) (h1 : g_I v 833 1 = g_I u 833 1) (h2 : g_I v 897 1 = g_I u 897 1) (h3 : g_I v 577 1 = g_I u 577 1) : z_ps v pl n r := by
  cases r with
  | inl q => exact ⟨⟨by rw [h1]; exact h.1.1, by rw [h2]; exact h.1.2.1, by rw [h3]; exact h.1.2.2⟩, h.2⟩
  | inr p => exact ⟨⟨by rw [h1]; exact h.1.1, by rw [h3]; exact h.1.2⟩, h.2⟩
theorem m_opr (hk : ∀ i, kd i < 40) (hn : n ≤ 400) (hend : ∀ p, p ≤ n → kd p ≠ 38 → p < n) {s : g_St} (hm : m_Fix s) (ht : z_tkM s n kd pl vl) {r : z_P} (ha : z_ps s pl n r) (x : Int32) : ∃ t, m_Fix t ∧ z_tkM t n kd pl vl ∧ z_ps t pl n (z_opr kd r) ∧ z_W [577, 833, 897] [] s t ∧
    (g_c (g_nn (some 1) (f_M_isSign (some 1) 61 s)) fun i17 s18 => if i17 = 0 then g_c (g_nn (some 1) (f_M_isSign (some 1) 60 s18)) fun i21 s22 => if i21 = 0 then g_c (g_nn (some 1) (f_M_isSign (some 1) 62 s22)) fun i25 s26 => if i25 = 0 then g_c (g_nn (some 1) (f_M_is (some 1) 32 s26)) fun i29 s30 => if i29 = 0 then g_c (g_nn (some 1) (f_M_bad (some 1) s30)) fun i31 s32 => if i31 = 0 then g_gR s32 705 (some 1) fun p33 => g_gI s32 577 (some 1) fun i34 => g_aI s32 p33 i34 fun i35 => g_c (g_nn (some 1) (f_M_note (some 1) 1 i35 s32)) fun _ s37 => f_M_readCondition_144 (some 1) x s37 else f_M_readCondition_144 (some 1) x s32 else g_gI s30 577 (some 1) fun i38 => g_pI s30 577 (some 1) (i38 + 1) fun s39 => f_M_readCondition_144 (some 1) x s39 else g_gI s26 577 (some 1) fun i27 => g_pI s26 577 (some 1) (i27 + 1) fun s28 => f_M_readCondition_144 (some 1) x s28 else g_gI s22 577 (some 1) fun i23 => g_pI s22 577 (some 1) (i23 + 1) fun s24 => f_M_readCondition_144 (some 1) x s24 else g_gI s18 577 (some 1) fun i19 => g_pI s18 577 (some 1) (i19 + 1) fun s20 => f_M_readCondition_144 (some 1) x s20) = f_M_readCondition_144 (some 1) x t := by
  cases r with
  | inl q =>
    refine ⟨s, hm, ht, ha, z_W.re, ?_⟩
    rw [x_nn, m_isSignS ha.1.1, x_c, if_pos rfl, x_nn, m_isSignS ha.1.1, x_c, if_pos rfl, x_nn, m_isSignS ha.1.1, x_c, if_pos rfl, x_nn, pM_isS ha.1.1, x_c, if_pos rfl, x_nn, pM_badS ha.1.1, x_c, if_neg (by decide)]
  | inr p =>
    have s61 := m_isSign hm ht hk hn ha.2 ha.1 (k := 31) (by decide) (c := 61) rfl
    have s60 := m_isSign hm ht hk hn ha.2 ha.1 (k := 32) (by decide) (c := 60) rfl
    have s62 := m_isSign hm ht hk hn ha.2 ha.1 (k := 33) (by decide) (c := 62) rfl
    have s32 := pM_is hm ht hk hn ha.2 ha.1.1 ha.1.2 (k := 35) (by decide)
    have good : (kd p = 31 ∨ kd p = 32 ∨ kd p = 33 ∨ kd p = 35) → m_Fix (g_setI s 577 1 (Int32.ofNat (p + 1))) ∧ z_tkM (g_setI s 577 1 (Int32.ofNat (p + 1))) n kd pl vl ∧ z_ps (g_setI s 577 1 (Int32.ofNat (p + 1))) pl n (z_opr kd (.inr p)) ∧ z_W [577, 833, 897] [] s (g_setI s 577 1 (Int32.ofNat (p + 1))) := fun w => by
      refine ⟨hm, ht, ?_, z_W.re.pI (by decide) _⟩
      unfold z_opr
      simp only []
      rw [if_pos w]
      exact ⟨⟨by rw [x_I_I, if_neg (fun q => by have := q.1; omega)]; exact ha.1.1, by rw [x_I_I, if_pos ⟨rfl, rfl⟩]⟩, by have := hend p ha.2 (by omega); omega⟩
    rw [x_nn, s61]
    by_cases w1 : kd p = 31
    · obtain ⟨g1, g2, g3, g4⟩ := good (Or.inl w1)
      refine ⟨_, g1, g2, g3, g4, ?_⟩
      rw [if_pos w1, x_c, if_neg (by decide), x_gI, ha.1.2, x_pI, x_p1]
    rw [if_neg w1, x_c, if_pos rfl, x_nn, s60]
    by_cases w2 : kd p = 32
    · obtain ⟨g1, g2, g3, g4⟩ := good (Or.inr (Or.inl w2))
      refine ⟨_, g1, g2, g3, g4, ?_⟩
      rw [if_pos w2, x_c, if_neg (by decide), x_gI, ha.1.2, x_pI, x_p1]
    rw [if_neg w2, x_c, if_pos rfl, x_nn, s62]
    by_cases w3 : kd p = 33
    · obtain ⟨g1, g2, g3, g4⟩ := good (Or.inr (Or.inr (Or.inl w3)))
      refine ⟨_, g1, g2, g3, g4, ?_⟩
      rw [if_pos w3, x_c, if_neg (by decide), x_gI, ha.1.2, x_pI, x_p1]
    rw [if_neg w3, x_c, if_pos rfl, x_nn, show (32 : Int32) = z_km 35 from rfl, s32]
    by_cases w4 : kd p = 35
    · obtain ⟨g1, g2, g3, g4⟩ := good (Or.inr (Or.inr (Or.inr w4)))
      refine ⟨_, g1, g2, g3, g4, ?_⟩
      rw [if_pos w4, x_c, if_neg (by decide), x_gI, ha.1.2, x_pI, x_p1]
    rw [if_neg w4, x_c, if_pos rfl, x_nn, pM_bad ha.1.1, x_c, if_pos rfl, x_gR, (hm _ m_k705).1, x_gI, ha.1.2, x_aI (by have := ha.2; omega) (by rw [(hm _ m_k705).2]; show p < 402; have := ha.2; omega), (ht p ha.2).2.1, x_nn, pM_note1 ha.1.1, x_c]
    refine ⟨g_setI (g_setI s 833 1 1) 897 1 (Int32.ofNat (pl p)), hm, ht, ?_, z_W.pI (k := 897) (z_W.pI (k := 833) z_W.re (by decide) 1) (by decide) _, rfl⟩
    unfold z_opr
    simp only []
    rw [if_neg (by omega)]
    refine ⟨⟨?_, ?_, ?_⟩, ha.2⟩
    · rw [x_I_I, if_neg (fun q => by have := q.1; omega), x_I_I, if_pos ⟨rfl, rfl⟩]
    · rw [x_I_I, if_pos ⟨rfl, rfl⟩]
    · rw [x_I_I, if_neg (fun q => by have := q.1; omega), x_I_I, if_neg (fun q => by have := q.1; omega)]; exact ha.1.2
/-- a comparison stands at c -/
def M_cb (u : g_St) (N E c : Nat) (b : z_Bs) : Prop := (∃ e1, e1 < E ∧ g_AI u 3412 c = Int32.ofNat e1 ∧ M_ex u N e1 b.1) ∧ ((b.2.1 = 9 ∧ g_AI u 3284 c = 1) ∨ (b.2.1 ≠ 9 ∧ g_AI u 3284 c = 0 ∧ g_AI u 3348 c = z_km b.2.1 ∧ ∃ e2, e2 < E ∧ g_AI u 3476 c = Int32.ofNat e2 ∧ M_ex u N e2 b.2.2))
/-- what reading a comparison leaves: operands before o, expressions before e, conditions but c -/
def M_keptC (u u' : g_St) (o e c : Nat) : Prop := (∀ j, j < o → g_AI u' 2836 j = g_AI u 2836 j ∧ g_AI u' 2772 j = g_AI u 2772 j ∧ g_AI u' 2900 j = g_AI u 2900 j) ∧ (∀ j, j < e → g_AI u' 2708 j = g_AI u 2708 j ∧ g_AI u' 2644 j = g_AI u 2644 j) ∧ ∀ j, j ≠ c → g_AI u' 3284 j = g_AI u 3284 j ∧ g_AI u' 3348 j = g_AI u 3348 j ∧ g_AI u' 3412 j = g_AI u 3412 j ∧ g_AI u' 3476 j = g_AI u 3476 j
theorem m_cor144 (hk : ∀ i, kd i < 40) (hn : n ≤ 400) (hend : ∀ p, p ≤ n → kd p ≠ 38 → p < n) {u : g_St} (hm : m_Fix u) (ht : z_tkM u n kd pl vl) {r : z_P} (ha : z_ps u pl n r) {e o c : Nat} (he : e < 210) (ho : o + 3 < 210) (hc : c < 120) (h3 : g_I u 3009 1 = Int32.ofNat e) (h4 : g_I u 3073 1 = Int32.ofNat o) :
    ∃ u', f_M_readCondition_144 (some 1) (Int32.ofNat c) u = some (Int32.ofNat c, u') ∧ m_Fix u' ∧ z_tkM u' n kd pl vl ∧ z_ps u' pl n (z_exr kd r).2 ∧ z_W [577, 833, 897, 3009, 3073] [2644, 2708, 2772, 2836, 2900, 3476] u u' ∧ M_keptX u u' o e ∧ (∀ j, j ≠ c → g_AI u' 3476 j = g_AI u 3476 j) ∧ g_AI u' 3476 c = Int32.ofNat e ∧ g_I u' 3009 1 = Int32.ofNat (e + 1) ∧
      (∃ m, g_I u' 3073 1 = Int32.ofNat (o + m) ∧ m ≤ 4 ∧ (∀ p, r = .inr p → match (z_exr kd r).2 with | .inl q => p + 2 * m ≤ q + 2 ∧ q ≤ n ∧ 1 ≤ m | .inr q => p + 2 * m ≤ q + 1 ∧ 1 ≤ m) ∧ (∀ q, r = .inl q → m = 0) ∧ (∀ q, (z_exr kd r).2 = .inr q → M_ex u' (o + m) e (z_exr kd r).1)) := by
  obtain ⟨s3, a1, a2, a3, a4, a5, a6, a7, m, b1, b2, b3, b4, b5⟩ := m_exr hk hn hend hm ht ha he ho h3 h4
  have l3 : g_ln s3 3476 = 120 := (a2 _ m_k4097).2
  have g1 : ∀ a j, g_AI (g_setAI s3 3476 c (Int32.ofNat e)) a j = if a = 3476 ∧ j = c then Int32.ofNat e else g_AI s3 a j := fun a j => x_AI_AI ..
  have g2 : ∀ a, a ≠ 3476 → g_AI (g_setAI s3 3476 c (Int32.ofNat e)) a = g_AI s3 a := fun a h => funext fun j => by rw [g1, if_neg (fun w => h w.1)]
  refine ⟨g_setAI s3 3476 c (Int32.ofNat e), ?_, a2, a3.sI (by decide) (by decide) c _, a4.of rfl rfl rfl, (a5.mono (by decide) (by decide)).sI (by decide) c _, ⟨fun j hj => ?_, fun j hj => ?_⟩, fun j hj => ?_, by rw [g1, if_pos ⟨rfl, rfl⟩], a7, m, b1, b2, b3, b4, fun q w => ?_⟩
  · unfold f_M_readCondition_144
    rw [x_gR, (hm _ m_k4097).1, x_nn, a1, x_c, x_sI (by omega) (by rw [l3]; exact hc)]
  · rw [g2 2836 (by decide), g2 2772 (by decide), g2 2900 (by decide)]
    exact a6.1 j hj
  · rw [g2 2708 (by decide), g2 2644 (by decide)]
    exact a6.2 j hj
  · rw [g1, if_neg (fun w => hj w.2), (a5.2.2.2.2.2.2.2.2 3476 (by decide)).1]
  · exact (b5 q w).same (fun a h => g2 a (by omega))
theorem z_exr_ge (hend : ∀ p, p ≤ n → kd p ≠ 38 → p < n) {p : Nat} (hp : p ≤ n) {m : Nat} (h : match (z_exr kd (.inr p)).2 with | .inl q => p + 2 * m ≤ q + 2 ∧ q ≤ n ∧ 1 ≤ m | .inr q => p + 2 * m ≤ q + 1 ∧ 1 ≤ m) : p + 2 * m ≤ z_pk (z_exr kd (.inr p)).2 + 2 := by
  cases hz : (z_exr kd (.inr p)).2 with
  | inl q => rw [hz] at h; exact h.1
  | inr q => rw [hz] at h; show p + 2 * m ≤ q + 2; have := h.1; omega
/-- so many operands for so many tokens; at least w tokens; x expressions -/
def z_pro (r r' : z_P) (m w x : Nat) : Prop := (∀ q, r = .inl q → m = 0 ∧ r' = .inl q) ∧ ∀ p, r = .inr p → match r' with
  | .inl q => p ≤ q ∧ p + 2 * m ≤ q + 2
  | .inr q => p + 2 * m ≤ q + 1 ∧ p + w ≤ q ∧ x ≤ m
set_option maxHeartbeats 1000000 in
theorem m_cor (hk : ∀ i, kd i < 40) (hn : n ≤ 400) (hend : ∀ p, p ≤ n → kd p ≠ 38 → p < n) {u : g_St} (hm : m_Fix u) (ht : z_tkM u n kd pl vl) {r : z_P} (ha : z_ps u pl n r) {e o c : Nat} (he : e + 1 < 210) (ho : o + 7 < 210) (hc : c < 120) (h3 : g_I u 3009 1 = Int32.ofNat e) (h4 : g_I u 3073 1 = Int32.ofNat o) (h5 : g_I u 3841 1 = Int32.ofNat c) :
    ∃ u', f_M_readCondition (some 1) u = some (Int32.ofNat c, u') ∧ m_Fix u' ∧ z_tkM u' n kd pl vl ∧ z_ps u' pl n (z_cor kd r).2 ∧ M_keptC u u' o e c ∧ g_I u' 3841 1 = Int32.ofNat (c + 1) ∧ ∃ e' m, g_I u' 3009 1 = Int32.ofNat e' ∧ e < e' ∧ e' ≤ e + 2 ∧ g_I u' 3073 1 = Int32.ofNat (o + m) ∧ m ≤ 8 ∧ z_pro r (z_cor kd r).2 m 3 (e' - e) ∧ (∀ q, (z_cor kd r).2 = .inr q → M_cb u' (o + m) e' c (z_cor kd r).1) := by
  obtain ⟨s2, a1, a2, a3, a4, a5, a6, a7, m, b1, b2, b3, b4, b5⟩ := m_exr hk hn hend hm ht ha (by omega) (by omega) h3 h4
  have i2 : g_I s2 3841 1 = Int32.ofNat c := by rw [a5.2.2.2.2.2.2.2.1 3841 1 (fun q => by have := q.2; simp at this)]; exact h5
  have c2 : ∀ a, a = 3284 ∨ a = 3348 ∨ a = 3412 ∨ a = 3476 → g_AI s2 a = g_AI u a := fun a w => (a5.2.2.2.2.2.2.2.2 a (by rcases w with w | w | w | w <;> subst w <;> decide)).1
  -- the state with the left side written
  obtain ⟨s7, hs7⟩ : ∃ s7, s7 = g_setAI (g_setI s2 3841 1 (Int32.ofNat (c + 1))) 3412 c (Int32.ofNat e) := ⟨_, rfl⟩
  have g7 : ∀ a j, g_AI s7 a j = if a = 3412 ∧ j = c then Int32.ofNat e else g_AI s2 a j := fun a j => by rw [hs7, x_AI_AI]; rfl
  have g7' : ∀ a, a ≠ 3412 → g_AI s7 a = g_AI s2 a := fun a h => funext fun j => by rw [g7, if_neg (fun w => h w.1)]
  have i7 : ∀ k, k ≠ 3841 → g_I s7 k 1 = g_I s2 k 1 := fun k h => by
    rw [hs7]
    show g_I (g_setI s2 3841 1 (Int32.ofNat (c + 1))) k 1 = _
    rw [x_I_I, if_neg (fun w => h w.1)]
  have i7c : g_I s7 3841 1 = Int32.ofNat (c + 1) := by
    rw [hs7]
    show g_I (g_setI s2 3841 1 (Int32.ofNat (c + 1))) 3841 1 = _
    rw [x_I_I, if_pos ⟨rfl, rfl⟩]
  have m7 : m_Fix s7 := by rw [hs7]; exact a2
  have t7 : z_tkM s7 n kd pl vl := by rw [hs7]; exact a3.sI (by decide) (by decide) c _
  have p7 : z_ps s7 pl n (z_exr kd r).2 := a4.of (i7 833 (by decide)) (i7 897 (by decide)) (i7 577 (by decide))
  obtain ⟨s9, d1, d2, d3, d4, d5⟩ := m_skr hk hn hend m7 t7 p7 (k := 9) (by decide)
  have i9 : ∀ k, k ≠ 577 → g_I s9 k 1 = g_I s7 k 1 := fun k h => d5.2.2.2.2.2.2.2.1 k 1 (fun q => by have := q.2; simp at this; exact h this)
  have g9 : ∀ a, g_AI s9 a = g_AI s7 a := fun a => (d5.2.2.2.2.2.2.2.2 a (by simp)).1
  have start : f_M_readCondition (some 1) u = if z_g (z_skr kd 9 (z_exr kd r).2).1 = 0 then g_gR s9 3905 (some 1) fun p10 => g_sI s9 p10 (Int32.ofNat c) 0 fun s11 => g_gR s11 3969 (some 1) fun p12 => g_gR s11 641 (some 1) fun p13 => g_gI s11 577 (some 1) fun i14 => g_aI s11 p13 i14 fun i15 => g_sI s11 p12 (Int32.ofNat c) i15 fun s16 => (g_c (g_nn (some 1) (f_M_isSign (some 1) 61 s16)) fun i17 s18 => if i17 = 0 then g_c (g_nn (some 1) (f_M_isSign (some 1) 60 s18)) fun i21 s22 => if i21 = 0 then g_c (g_nn (some 1) (f_M_isSign (some 1) 62 s22)) fun i25 s26 => if i25 = 0 then g_c (g_nn (some 1) (f_M_is (some 1) 32 s26)) fun i29 s30 => if i29 = 0 then g_c (g_nn (some 1) (f_M_bad (some 1) s30)) fun i31 s32 => if i31 = 0 then g_gR s32 705 (some 1) fun p33 => g_gI s32 577 (some 1) fun i34 => g_aI s32 p33 i34 fun i35 => g_c (g_nn (some 1) (f_M_note (some 1) 1 i35 s32)) fun _ s37 => f_M_readCondition_144 (some 1) (Int32.ofNat c) s37 else f_M_readCondition_144 (some 1) (Int32.ofNat c) s32 else g_gI s30 577 (some 1) fun i38 => g_pI s30 577 (some 1) (i38 + 1) fun s39 => f_M_readCondition_144 (some 1) (Int32.ofNat c) s39 else g_gI s26 577 (some 1) fun i27 => g_pI s26 577 (some 1) (i27 + 1) fun s28 => f_M_readCondition_144 (some 1) (Int32.ofNat c) s28 else g_gI s22 577 (some 1) fun i23 => g_pI s22 577 (some 1) (i23 + 1) fun s24 => f_M_readCondition_144 (some 1) (Int32.ofNat c) s24 else g_gI s18 577 (some 1) fun i19 => g_pI s18 577 (some 1) (i19 + 1) fun s20 => f_M_readCondition_144 (some 1) (Int32.ofNat c) s20)
      else g_c (f_M_need (some 1) 11 s9) fun _ s41 => g_gR s41 3905 (some 1) fun p42 => g_sI s41 p42 (Int32.ofNat c) 1 fun s43 => some (Int32.ofNat c, s43) := by
    unfold f_M_readCondition
    rw [x_nn, a1, x_c, x_gI, i2, x_gI, i2, x_pI, x_p1, x_gR, show g_R (g_setI s2 3841 1 (Int32.ofNat (c + 1))) 4033 1 = some 3412 from (a2 _ m_k4033).1, x_sI (by omega) (by show c < g_ln s2 3412; rw [show g_ln s2 3412 = 120 from (a2 _ m_k4033).2]; exact hc), ← hs7, x_nn, show (10 : Int32) = z_km 9 from rfl, d1, x_c]
    rfl
  have kE : ∀ s : g_St, (∀ a, a = 2836 ∨ a = 2772 ∨ a = 2900 ∨ a = 2708 ∨ a = 2644 → g_AI s a = g_AI s2 a) → (∀ j, j < o → g_AI s 2836 j = g_AI u 2836 j ∧ g_AI s 2772 j = g_AI u 2772 j ∧ g_AI s 2900 j = g_AI u 2900 j) ∧ (∀ j, j < e → g_AI s 2708 j = g_AI u 2708 j ∧ g_AI s 2644 j = g_AI u 2644 j) := fun s h => by
    refine ⟨fun j hj => ?_, fun j hj => ?_⟩
    · rw [h 2836 (by omega), h 2772 (by omega), h 2900 (by omega)]; exact a6.1 j hj
    · rw [h 2708 (by omega), h 2644 (by omega)]; exact a6.2 j (by omega)
  cases hb : (z_skr kd 9 (z_exr kd r).2).1 with
  | true =>
    rw [hb, if_neg (by decide)] at start
    obtain ⟨v, s41, f1, f2, f3, f4, f5, -⟩ := m_ndr hk hn hend d2 d3 d4 (k := 10) (by decide)
    have i41 : ∀ k, k ≠ 577 → k ≠ 833 → k ≠ 897 → g_I s41 k 1 = g_I s7 k 1 := fun k q1 q2 q3 => by
      rw [f5.2.2.2.2.2.2.2.1 k 1 (fun q => by have := q.2; simp at this; omega), i9 k q1]
    have g41 : ∀ a, g_AI s41 a = g_AI s7 a := fun a => by rw [(f5.2.2.2.2.2.2.2.2 a (by simp)).1, g9]
    have gz : ∀ a j, g_AI (g_setAI s41 3284 c 1) a j = if a = 3284 ∧ j = c then 1 else g_AI s7 a j := fun a j => by rw [x_AI_AI, g41]
    have gz' : ∀ a, a ≠ 3284 → g_AI (g_setAI s41 3284 c 1) a = g_AI s7 a := fun a h => funext fun j => by rw [gz, if_neg (fun w => h w.1)]
    have hcor : z_cor kd r = (((z_exr kd r).1, 9, []), z_ndr kd 10 (z_skr kd 9 (z_exr kd r).2).2) := by unfold z_cor; rw [if_pos hb]
    rw [show (11 : Int32) = z_km 10 from rfl, f1, x_c, x_gR, (f2 _ m_k3905).1, x_sI (by omega) (by rw [show g_ln s41 3284 = 120 from (f2 _ m_k3905).2]; exact hc)] at start
    have kk := kE (g_setAI s41 3284 c 1) (fun a w => by rw [gz' a (by omega), g7' a (by omega)])
    refine ⟨_, start, f2, f3.sI (by decide) (by decide) c _, by rw [hcor]; exact f4.of rfl rfl rfl, ⟨kk.1, kk.2, fun j hj => ?_⟩, ?_, e + 1, m, ?_, by omega, by omega, ?_, by omega, ?_, fun q hq => ?_⟩
    · rw [gz, gz' 3348 (by decide), gz' 3412 (by decide), gz' 3476 (by decide), if_neg (fun w => hj w.2), g7' 3284 (by decide), g7' 3348 (by decide), g7' 3476 (by decide), g7, if_neg (fun w => hj w.2), c2 3284 (by omega), c2 3348 (by omega), c2 3412 (by omega), c2 3476 (by omega)]
      exact ⟨rfl, rfl, rfl, rfl⟩
    · show g_I s41 3841 1 = _
      rw [i41 3841 (by decide) (by decide) (by decide)]; exact i7c
    · show g_I s41 3009 1 = _
      rw [i41 3009 (by decide) (by decide) (by decide), i7 3009 (by decide)]; exact a7
    · show g_I s41 3073 1 = _
      rw [i41 3073 (by decide) (by decide) (by decide), i7 3073 (by decide)]; exact b1
    · rw [hcor]
      refine ⟨fun q w => ?_, fun p w => ?_⟩
      · rw [w] at hb; cases hb
      · have q3 := b3 p w
        cases hz : (z_exr kd r).2 with
        | inl q1 => rw [hz] at hb; cases hb
        | inr q1 =>
          rw [hz] at q3 hb
          have e1 : (z_skr kd 9 (.inr q1)).2 = .inr (q1 + 1) := by
            unfold z_skr at hb ⊢
            simp only [] at hb ⊢
            by_cases y : kd q1 = 9
            · rw [if_pos y]
            · rw [if_neg y] at hb; cases hb
          rw [e1]
          unfold z_ndr
          simp only []
          have q4 : p + 2 * m ≤ q1 + 1 ∧ 1 ≤ m := q3
          by_cases y : kd (q1 + 1) = 10
          · rw [if_pos y]
            exact ⟨by omega, by omega, by omega⟩
          · rw [if_neg y]
            exact ⟨by omega, by omega⟩
    · rw [hcor] at hq ⊢
      have ok : ∃ q1, (z_exr kd r).2 = .inr q1 := by
        cases hz : (z_exr kd r).2 with
        | inl q1 => rw [hz] at hb; cases hb
        | inr q1 => exact ⟨q1, rfl⟩
      obtain ⟨q1, hq1⟩ := ok
      refine ⟨⟨e, by omega, ?_, (b5 q1 hq1).same (fun a w => by rw [gz' a (by omega), g7' a (by omega)])⟩, Or.inl ⟨rfl, by rw [gz, if_pos ⟨rfl, rfl⟩]⟩⟩
      rw [gz' 3412 (by decide), g7, if_pos ⟨rfl, rfl⟩]
  | false =>
    rw [hb, if_pos (by decide)] at start
    have hr2 : (z_skr kd 9 (z_exr kd r).2).2 = (z_exr kd r).2 := by
      cases hz : (z_exr kd r).2 with
      | inl q1 => rfl
      | inr q1 =>
        rw [hz] at hb
        unfold z_skr at hb ⊢
        simp only [] at hb ⊢
        by_cases w : kd q1 = 9
        · rw [if_pos w] at hb; cases hb
        · rw [if_neg w]
    rw [hr2] at d4
    obtain ⟨pp, hpn⟩ := d4.pos
    obtain ⟨s16, hs16⟩ : ∃ s16, s16 = g_setAI (g_setAI s9 3284 c 0) 3348 c (z_km (kd (z_pk (z_exr kd r).2))) := ⟨_, rfl⟩
    have g16 : ∀ a j, g_AI s16 a j = if a = 3348 ∧ j = c then z_km (kd (z_pk (z_exr kd r).2)) else if a = 3284 ∧ j = c then 0 else g_AI s7 a j := fun a j => by rw [hs16, x_AI_AI, x_AI_AI, g9]
    have g16' : ∀ a, a ≠ 3348 → a ≠ 3284 → g_AI s16 a = g_AI s7 a := fun a q1 q2 => funext fun j => by rw [g16, if_neg (fun w => q1 w.1), if_neg (fun w => q2 w.1)]
    have m16 : m_Fix s16 := by rw [hs16]; exact d2
    have t16 : z_tkM s16 n kd pl vl := by rw [hs16]; exact (d3.sI (by decide) (by decide) c _).sI (by decide) (by decide) c _
    have i16 : ∀ k, g_I s16 k 1 = g_I s9 k 1 := fun k => by rw [hs16]; rfl
    have p16 : z_ps s16 pl n (z_exr kd r).2 := d4.of (i16 833) (i16 897) (i16 577)
    have l1 : g_ln s9 3284 = 120 := (d2 _ m_k3905).2
    have l2 : g_ln s9 3348 = 120 := (d2 _ m_k3969).2
    rw [x_gR, (d2 _ m_k3905).1, x_sI (by omega) (by rw [l1]; exact hc), x_gR, show g_R (g_setAI s9 3284 c 0) 3969 1 = some 3348 from (d2 _ m_k3969).1, x_gR, show g_R (g_setAI s9 3284 c 0) 641 1 = some 1108 from (d2 _ m_k641).1, x_gI, show g_I (g_setAI s9 3284 c 0) 577 1 = Int32.ofNat (z_pk (z_exr kd r).2) from pp, x_aI (by omega) (by show z_pk (z_exr kd r).2 < g_ln s9 1108; rw [show g_ln s9 1108 = 402 from (d2 _ m_k641).2]; omega), show g_AI (g_setAI s9 3284 c 0) 1108 (z_pk (z_exr kd r).2) = z_km (kd (z_pk (z_exr kd r).2)) from (by rw [x_AI_AI, if_neg (fun w => by have := w.1; omega)]; exact (d3 _ hpn).1), x_sI (by omega) (by show c < g_ln s9 3348; omega), ← hs16] at start
    obtain ⟨t, o1, o2, o3, o4, o5⟩ := m_opr hk hn hend m16 t16 p16 (Int32.ofNat c)
    have it : ∀ k, k ≠ 577 → k ≠ 833 → k ≠ 897 → g_I t k 1 = g_I s7 k 1 := fun k q1 q2 q3 => by
      rw [o4.2.2.2.2.2.2.2.1 k 1 (fun q => by have := q.2; simp at this; omega), i16, i9 k q1]
    have gt : ∀ a, g_AI t a = g_AI s16 a := fun a => (o4.2.2.2.2.2.2.2.2 a (by simp)).1
    obtain ⟨u', v1, v2, v3, v4, v5, v6, v7, v8, v9, m2, w1, w2, w3, w4, w5⟩ := m_cor144 hk hn hend o1 o2 o3 (e := e + 1) (o := o + m) (c := c) (by omega) (by omega) hc (by rw [it 3009 (by decide) (by decide) (by decide), i7 3009 (by decide)]; exact a7) (by rw [it 3073 (by decide) (by decide) (by decide), i7 3073 (by decide)]; exact b1)
    have hcor : z_cor kd r = (((z_exr kd r).1, kd (z_pk (z_exr kd r).2), (z_exr kd (z_opr kd (z_exr kd r).2)).1), (z_exr kd (z_opr kd (z_exr kd r).2)).2) := by unfold z_cor; rw [if_neg (by rw [hb]; decide)]
    have gu : ∀ a, a = 3284 ∨ a = 3348 ∨ a = 3412 → g_AI u' a = g_AI s16 a := fun a q => by rw [(v5.2.2.2.2.2.2.2.2 a (by rcases q with q | q | q <;> subst q <;> decide)).1, gt]
    refine ⟨u', start.trans (o5.trans v1), v2, v3, by rw [hcor]; exact v4, ⟨fun j hj => ?_, fun j hj => ?_, fun j hj => ?_⟩, ?_, e + 2, m + m2, v9, by omega, by omega, ?_, by omega, ?_, fun q hq => ?_⟩
    · obtain ⟨q1, q2, q3⟩ := v6.1 j (by omega)
      rw [q1, q2, q3, gt, gt, gt, g16' 2836 (by decide) (by decide), g16' 2772 (by decide) (by decide), g16' 2900 (by decide) (by decide), g7' 2836 (by decide), g7' 2772 (by decide), g7' 2900 (by decide)]
      exact a6.1 j hj
    · obtain ⟨q1, q2⟩ := v6.2 j (by omega)
      rw [q1, q2, gt, gt, g16' 2708 (by decide) (by decide), g16' 2644 (by decide) (by decide), g7' 2708 (by decide), g7' 2644 (by decide)]
      exact a6.2 j (by omega)
    · rw [gu 3284 (by omega), gu 3348 (by omega), gu 3412 (by omega), v7 j hj, gt, g16' 3412 (by decide) (by decide), g16' 3476 (by decide) (by decide), g16, g16, if_neg (fun w => hj w.2), if_neg (fun w => hj w.2), if_neg (fun w => hj w.2), if_neg (fun w => hj w.2), g7' 3284 (by decide), g7' 3348 (by decide), g7' 3476 (by decide), g7, if_neg (fun w => hj w.2), c2 3284 (by omega), c2 3348 (by omega), c2 3412 (by omega), c2 3476 (by omega)]
      exact ⟨rfl, rfl, rfl, rfl⟩
    · rw [v5.2.2.2.2.2.2.2.1 3841 1 (fun q => by have := q.2; simp at this), it 3841 (by decide) (by decide) (by decide)]; exact i7c
    · rw [w1, show o + m + m2 = o + (m + m2) by omega]
    · rw [hcor]
      refine ⟨fun q w => ?_, fun p w => ?_⟩
      · have e1 : (z_exr kd r).2 = .inl q := by rw [w]; rfl
        have e2 : z_opr kd (z_exr kd r).2 = .inl q := by rw [e1]; rfl
        refine ⟨by have := b4 q w; have := w4 q e2; omega, ?_⟩
        show (z_exr kd (z_opr kd (z_exr kd r).2)).2 = .inl q
        rw [e2]; rfl
      · have q3 := b3 p w
        cases hz : (z_exr kd r).2 with
        | inl q1 =>
          rw [hz] at q3
          have e2 : z_opr kd (.inl q1) = .inl q1 := rfl
          rw [hz] at w4
          have := w4 q1 rfl
          have q4 : p + 2 * m ≤ q1 + 2 ∧ q1 ≤ n ∧ 1 ≤ m := q3
          show match (z_exr kd (.inl q1)).2 with | .inl q => p ≤ q ∧ p + 2 * (m + m2) ≤ q + 2 | .inr q => p + 2 * (m + m2) ≤ q + 1 ∧ p + 3 ≤ q ∧ e + 2 - e ≤ m + m2
          show p ≤ q1 ∧ p + 2 * (m + m2) ≤ q1 + 2
          exact ⟨by omega, by omega⟩
        | inr q1 =>
          rw [hz] at q3 w3 w4
          have q4 : p + 2 * m ≤ q1 + 1 ∧ 1 ≤ m := q3
          unfold z_opr at w3 w4 ⊢
          simp only [] at w3 w4 ⊢
          by_cases y : kd q1 = 31 ∨ kd q1 = 32 ∨ kd q1 = 33 ∨ kd q1 = 35
          · rw [if_pos y] at w3 w4 ⊢
            have q5 := w3 (q1 + 1) rfl
            cases hy : (z_exr kd (.inr (q1 + 1))).2 with
            | inl q2 =>
              rw [hy] at q5
              have q6 : q1 + 1 + 2 * m2 ≤ q2 + 2 ∧ q2 ≤ n ∧ 1 ≤ m2 := q5
              exact ⟨by omega, by omega⟩
            | inr q2 =>
              rw [hy] at q5
              have q6 : q1 + 1 + 2 * m2 ≤ q2 + 1 ∧ 1 ≤ m2 := q5
              exact ⟨by omega, by omega, by omega⟩
          · rw [if_neg y] at w3 w4 ⊢
            have := w4 q1 rfl
            exact ⟨by omega, by omega⟩
    · rw [hcor] at hq ⊢
      have ok : ∃ q1, (z_exr kd r).2 = .inr q1 := by
        cases hz : (z_exr kd r).2 with
        | inl q1 => rw [hz] at hq; cases hq
        | inr q1 => exact ⟨q1, rfl⟩
      obtain ⟨q1, hq1⟩ := ok
      have n9 : kd (z_pk (z_exr kd r).2) ≠ 9 := by
        rw [hq1]
        intro w
        rw [hq1] at hb
        unfold z_skr at hb
        simp only [] at hb
        rw [if_pos (show kd q1 = 9 from w)] at hb
        cases hb
      have lt : M_ex t (o + m) e (z_exr kd r).1 := (b5 q1 hq1).same (fun a w => by rw [gt, g16' a (by omega) (by omega), g7' a (by omega)])
      refine ⟨⟨e, by omega, ?_, (lt.kept v6 (by omega)).more (by omega)⟩, Or.inr ⟨n9, ?_, ?_, e + 1, by omega, v8, ?_⟩⟩
      · rw [gu 3412 (by omega), g16' 3412 (by decide) (by decide), g7, if_pos ⟨rfl, rfl⟩]
      · rw [gu 3284 (by omega), g16, if_neg (fun w => by have := w.1; omega), if_pos ⟨rfl, rfl⟩]
      · rw [gu 3348 (by omega), g16, if_pos ⟨rfl, rfl⟩]
      · rw [show o + (m + m2) = o + m + m2 by omega]
        exact w5 q hq
end
