/-! THE REFERENCE READS A COMPARISON -/
abbrev z_Bs : Type := z_Ex × Nat × z_Ex
def z_opr (kd : Nat → Nat) (r : z_P) : z_P := match r with
  | .inl q => .inl q
  | .inr p => if kd p = 31 ∨ kd p = 32 ∨ kd p = 33 ∨ kd p = 35 then .inr (p + 1) else .inl p
def z_pk (r : z_P) : Nat := match r with
  | .inl q => q
  | .inr p => p
def z_cor (kd : Nat → Nat) (r : z_P) : z_Bs × z_P :=
  if (z_skr kd 9 (z_exr kd r).2).1 = true then (((z_exr kd r).1, 9, []), z_ndr kd 10 (z_skr kd 9 (z_exr kd r).2).2)
  else (((z_exr kd r).1, kd (z_pk (z_exr kd r).2), (z_exr kd (z_opr kd (z_exr kd r).2)).1), (z_exr kd (z_opr kd (z_exr kd r).2)).2)
section
variable {n : Nat} {kd pl : Nat → Nat} {vl : Nat → Int64}
theorem z_ps.pos {u : g_St} {r : z_P} (h : z_ps u pl n r) : g_I u 577 1 = Int32.ofNat (z_pk r) ∧ z_pk r ≤ n := by
  cases r with
  | inl q => exact ⟨h.1.2.2, h.2⟩
  | inr p => exact ⟨h.1.2, h.2⟩
theorem z_ps.of {u v : g_St} {r : z_P} (h : z_ps u pl n r) (h1 : g_I v 833 1 = g_I u 833 1) (h2 : g_I v 897 1 = g_I u 897 1) (h3 : g_I v 577 1 = g_I u 577 1) : z_ps v pl n r := by
  cases r with
  | inl q => exact ⟨⟨by rw [h1]; exact h.1.1, by rw [h2]; exact h.1.2.1, by rw [h3]; exact h.1.2.2⟩, h.2⟩
  | inr p => exact ⟨⟨by rw [h1]; exact h.1.1, by rw [h3]; exact h.1.2⟩, h.2⟩
theorem m_opr (hk : ∀ i, kd i < 40) (hn : n ≤ 400) (hend : ∀ p, p ≤ n → kd p ≠ 38 → p < n) {s : g_St} (hm : m_Fix s) (ht : z_tkM s n kd pl vl) {r : z_P} (ha : z_ps s pl n r) (x : Int32) : ∃ t, m_Fix t ∧ z_tkM t n kd pl vl ∧ z_ps t pl n (z_opr kd r) ∧ z_W [577, 833, 897] [] s t ∧
    (g_c (g_nn (some 1) (f_M_isSign (some 1) 61 s)) fun i17 s18 => if i17 = 0 then g_c (g_nn (some 1) (f_M_isSign (some 1) 60 s18)) fun i21 s22 => if i21 = 0 then g_c (g_nn (some 1) (f_M_isSign (some 1) 62 s22)) fun i25 s26 => if i25 = 0 then g_c (g_nn (some 1) (f_M_is (some 1) 32 s26)) fun i29 s30 => if i29 = 0 then g_c (g_nn (some 1) (f_M_bad (some 1) s30)) fun i31 s32 => if i31 = 0 then g_gR s32 705 (some 1) fun p33 => g_gI s32 577 (some 1) fun i34 => g_aI s32 p33 i34 fun i35 => g_c (g_nn (some 1) (f_M_note (some 1) 1 i35 s32)) fun _ s37 => f_M_readCondition_144 (some 1) x s37 else f_M_readCondition_144 (some 1) x s32 else g_gI s30 577 (some 1) fun i38 => g_pI s30 577 (some 1) (i38 + 1) fun s39 => f_M_readCondition_144 (some 1) x s39 else g_gI s26 577 (some 1) fun i27 => g_pI s26 577 (some 1) (i27 + 1) fun s28 => f_M_readCondition_144 (some 1) x s28 else g_gI s22 577 (some 1) fun i23 => g_pI s22 577 (some 1) (i23 + 1) fun s24 => f_M_readCondition_144 (some 1) x s24 else g_gI s18 577 (some 1) fun i19 => g_pI s18 577 (some 1) (i19 + 1) fun s20 => f_M_readCondition_144 (some 1) x s20) = f_M_readCondition_144 (some 1) x t := by
  cases r with
  | inl q =>
    refine ⟨s, hm, ht, ha, z_W.re, ?_⟩
    rw [x_nn, m_isSignS ha.1.1, x_c, if_pos rfl, x_nn, m_isSignS ha.1.1, x_c, if_pos rfl, x_nn, m_isSignS ha.1.1, x_c, if_pos rfl, x_nn, pM_isS ha.1.1, x_c, if_pos rfl, x_nn, pM_badS ha.1.1, x_c, if_neg (by decide)]
  | inr p =>
    have s61 := m_isSign hm ht hk hn ha.2 ha.1 (k := 31) (by decide) (c := 61) rfl
    have s60 := m_isSign hm ht hk hn ha.2 ha.1 (k := 32) (by decide) (c := 60) rfl
    have s62 := m_isSign hm ht hk hn ha.2 ha.1 (k := 33) (by decide) (c := 62) rfl
    have s32 := pM_is hm ht hk hn ha.2 ha.1.1 ha.1.2 (k := 35) (by decide)
    have good : (kd p = 31 ∨ kd p = 32 ∨ kd p = 33 ∨ kd p = 35) → m_Fix (g_setI s 577 1 (Int32.ofNat (p + 1))) ∧ z_tkM (g_setI s 577 1 (Int32.ofNat (p + 1))) n kd pl vl ∧ z_ps (g_setI s 577 1 (Int32.ofNat (p + 1))) pl n (z_opr kd (.inr p)) ∧ z_W [577, 833, 897] [] s (g_setI s 577 1 (Int32.ofNat (p + 1))) := fun w => by
      refine ⟨hm, ht, ?_, z_W.re.pI (by decide) _⟩
      unfold z_opr
      simp only []
      rw [if_pos w]
      exact ⟨⟨by rw [x_I_I, if_neg (fun q => by have := q.1; omega)]; exact ha.1.1, by rw [x_I_I, if_pos ⟨rfl, rfl⟩]⟩, by have := hend p ha.2 (by omega); omega⟩
    rw [x_nn, s61]
    by_cases w1 : kd p = 31
    · obtain ⟨g1, g2, g3, g4⟩ := good (Or.inl w1)
      refine ⟨_, g1, g2, g3, g4, ?_⟩
      rw [if_pos w1, x_c, if_neg (by decide), x_gI, ha.1.2, x_pI, x_p1]
    rw [if_neg w1, x_c, if_pos rfl, x_nn, s60]
    by_cases w2 : kd p = 32
    · obtain ⟨g1, g2, g3, g4⟩ := good (Or.inr (Or.inl w2))
      refine ⟨_, g1, g2, g3, g4, ?_⟩
      rw [if_pos w2, x_c, if_neg (by decide), x_gI, ha.1.2, x_pI, x_p1]
    rw [if_neg w2, x_c, if_pos rfl, x_nn, s62]
    by_cases w3 : kd p = 33
    · obtain ⟨g1, g2, g3, g4⟩ := good (Or.inr (Or.inr (Or.inl w3)))
      refine ⟨_, g1, g2, g3, g4, ?_⟩
      rw [if_pos w3, x_c, if_neg (by decide), x_gI, ha.1.2, x_pI, x_p1]
    rw [if_neg w3, x_c, if_pos rfl, x_nn, show (32 : Int32) = z_km 35 from rfl, s32]
    by_cases w4 : kd p = 35
    · obtain ⟨g1, g2, g3, g4⟩ := good (Or.inr (Or.inr (Or.inr w4)))
      refine ⟨_, g1, g2, g3, g4, ?_⟩
      rw [if_pos w4, x_c, if_neg (by decide), x_gI, ha.1.2, x_pI, x_p1]
    rw [if_neg w4, x_c, if_pos rfl, x_nn, pM_bad ha.1.1, x_c, if_pos rfl, x_gR, (hm _ m_k705).1, x_gI, ha.1.2, x_aI (by have := ha.2; omega) (by rw [(hm _ m_k705).2]; show p < 402; have := ha.2; omega), (ht p ha.2).2.1, x_nn, pM_note1 ha.1.1, x_c]
    refine ⟨g_setI (g_setI s 833 1 1) 897 1 (Int32.ofNat (pl p)), hm, ht, ?_, z_W.pI (k := 897) (z_W.pI (k := 833) z_W.re (by decide) 1) (by decide) _, rfl⟩
    unfold z_opr
    simp only []
    rw [if_neg (by omega)]
    refine ⟨⟨?_, ?_, ?_⟩, ha.2⟩
    · rw [x_I_I, if_neg (fun q => by have := q.1; omega), x_I_I, if_pos ⟨rfl, rfl⟩]
    · rw [x_I_I, if_pos ⟨rfl, rfl⟩]
    · rw [x_I_I, if_neg (fun q => by have := q.1; omega), x_I_I, if_neg (fun q => by have := q.1; omega)]; exact ha.1.2
/-- a comparison stands at c -/
def M_cb (u : g_St) (N c : Nat) (b : z_Bs) : Prop := (∃ e1, g_AI u 3412 c = Int32.ofNat e1 ∧ M_ex u N e1 b.1) ∧ ((b.2.1 = 9 ∧ g_AI u 3284 c = 1) ∨ (b.2.1 ≠ 9 ∧ g_AI u 3284 c = 0 ∧ g_AI u 3348 c = z_km b.2.1 ∧ ∃ e2, g_AI u 3476 c = Int32.ofNat e2 ∧ M_ex u N e2 b.2.2))
/-- what reading a comparison leaves: operands before o, expressions before e, conditions but c -/
def M_keptC (u u' : g_St) (o e c : Nat) : Prop := (∀ j, j < o → g_AI u' 2836 j = g_AI u 2836 j ∧ g_AI u' 2772 j = g_AI u 2772 j ∧ g_AI u' 2900 j = g_AI u 2900 j) ∧ (∀ j, j < e → g_AI u' 2708 j = g_AI u 2708 j ∧ g_AI u' 2644 j = g_AI u 2644 j) ∧ ∀ j, j ≠ c → g_AI u' 3284 j = g_AI u 3284 j ∧ g_AI u' 3348 j = g_AI u 3348 j ∧ g_AI u' 3412 j = g_AI u 3412 j ∧ g_AI u' 3476 j = g_AI u 3476 j
theorem m_cor144 (hk : ∀ i, kd i < 40) (hn : n ≤ 400) (hend : ∀ p, p ≤ n → kd p ≠ 38 → p < n) {u : g_St} (hm : m_Fix u) (ht : z_tkM u n kd pl vl) {r : z_P} (ha : z_ps u pl n r) {e o c : Nat} (he : e < 210) (ho : o + 3 < 210) (hc : c < 120) (h3 : g_I u 3009 1 = Int32.ofNat e) (h4 : g_I u 3073 1 = Int32.ofNat o) :
    ∃ u', f_M_readCondition_144 (some 1) (Int32.ofNat c) u = some (Int32.ofNat c, u') ∧ m_Fix u' ∧ z_tkM u' n kd pl vl ∧ z_ps u' pl n (z_exr kd r).2 ∧ z_W [577, 833, 897, 3009, 3073] [2644, 2708, 2772, 2836, 2900, 3476] u u' ∧ M_keptX u u' o e ∧ (∀ j, j ≠ c → g_AI u' 3476 j = g_AI u 3476 j) ∧ g_AI u' 3476 c = Int32.ofNat e ∧ g_I u' 3009 1 = Int32.ofNat (e + 1) ∧
      (∃ m, g_I u' 3073 1 = Int32.ofNat (o + m) ∧ m ≤ 4 ∧ (∀ p, r = .inr p → match (z_exr kd r).2 with | .inl q => p + 2 * m ≤ q + 2 ∧ q ≤ n | .inr q => p + 2 * m ≤ q + 1 ∧ 1 ≤ m) ∧ (∀ q, r = .inl q → m = 0) ∧ (∀ q, (z_exr kd r).2 = .inr q → M_ex u' (o + m) e (z_exr kd r).1)) := by
  obtain ⟨s3, a1, a2, a3, a4, a5, a6, a7, m, b1, b2, b3, b4, b5⟩ := m_exr hk hn hend hm ht ha he ho h3 h4
  have l3 : g_ln s3 3476 = 120 := (a2 _ m_k4097).2
  have g1 : ∀ a j, g_AI (g_setAI s3 3476 c (Int32.ofNat e)) a j = if a = 3476 ∧ j = c then Int32.ofNat e else g_AI s3 a j := fun a j => x_AI_AI ..
  have g2 : ∀ a, a ≠ 3476 → g_AI (g_setAI s3 3476 c (Int32.ofNat e)) a = g_AI s3 a := fun a h => funext fun j => by rw [g1, if_neg (fun w => h w.1)]
  refine ⟨g_setAI s3 3476 c (Int32.ofNat e), ?_, a2, a3.sI (by decide) (by decide) c _, a4.of rfl rfl rfl, (a5.mono (by decide) (by decide)).sI (by decide) c _, ⟨fun j hj => ?_, fun j hj => ?_⟩, fun j hj => ?_, by rw [g1, if_pos ⟨rfl, rfl⟩], a7, m, b1, b2, b3, b4, fun q w => ?_⟩
  · unfold f_M_readCondition_144
    rw [x_gR, (hm _ m_k4097).1, x_nn, a1, x_c, x_sI (by omega) (by rw [l3]; exact hc)]
  · rw [g2 2836 (by decide), g2 2772 (by decide), g2 2900 (by decide)]
    exact a6.1 j hj
  · rw [g2 2708 (by decide), g2 2644 (by decide)]
    exact a6.2 j hj
  · rw [g1, if_neg (fun w => hj w.2), (a5.2.2.2.2.2.2.2.2 3476 (by decide)).1]
  · exact (b5 q w).same (fun a h => g2 a (by omega))
end
