/-! A SELECTION, WHOLE -/
theorem x_sZ0 {α : Type} {u : g_St} {a i : Nat} (h : i < 2 ^ 31) (h2 : i < g_ln u a) (F : g_St → Option α) : g_sZ u (some a) (Int32.ofNat i) 0 F = F (g_setAI u a i 0) := by
  unfold g_sZ
  rw [Int32.toNatClampNeg_ofNat_of_lt h]
  refine if_neg (fun w => w.elim (fun w => w.elim (fun q => by rw [Int32.lt_iff_toInt_lt, Int32.toInt_ofNat_of_lt h, Int32.toInt_zero] at q; omega) (fun q => absurd h2 (Nat.not_lt.mpr q))) (fun q => q (Or.inl rfl)))
def M_se (pl : Nat → Nat) (u : g_St) (C : Nat → Nat) (s w : Nat) (x : z_Se) : Prop := s < C 2177 ∧ g_AI u 2004 s = Int32.ofNat w ∧ g_AI u 2068 s = Int32.ofNat (pl x.1) ∧ (∃ i0, g_AI u 2132 s = Int32.ofNat i0 ∧ M_its u C i0 x.2.1) ∧ g_AI u 2196 s = Int32.ofNat x.2.1.length ∧ g_AI u 159 s = z_fol x.2.1 ∧ (∃ k0, g_AI u 2260 s = Int32.ofNat k0 ∧ M_sos u C k0 x.2.2.1) ∧ g_AI u 2324 s = Int32.ofNat x.2.2.1.length ∧ g_AI u 2388 s = Int32.ofNat x.2.2.2.length ∧ M_cos u C s x.2.2.2 ∧ x.2.1.length ≤ 4 ∧ x.2.2.1.length ≤ 3 ∧ x.2.2.2.length ≤ 6
theorem M_se.low {pl : Nat → Nat} {u v : g_St} {C C' : Nat → Nat} {s w : Nat} {x : z_Se} (m : M_se pl u C s w x) (h : M_low u v C) (le : z_le C C') : M_se pl v C' s w x := by
  obtain ⟨m1, m2, m3, ⟨i0, m4, m5⟩, m6, m7, ⟨k0, m8, m9⟩, m10, m11, m12, m13⟩ := m
  have a1 : ∀ a, (a, 2177, 1) ∈ z_gp → g_AI v a s = g_AI u a s := fun a ha => h.at (f := 2177) (k := 1) ha (by omega)
  refine ⟨Nat.lt_of_lt_of_le m1 (le _), by rw [a1 _ (by decide)]; exact m2, by rw [a1 _ (by decide)]; exact m3, ⟨i0, by rw [a1 _ (by decide)]; exact m4, m5.low h le⟩, by rw [a1 _ (by decide)]; exact m6, by rw [a1 _ (by decide)]; exact m7, ⟨k0, by rw [a1 _ (by decide)]; exact m8, m9.low h le⟩, by rw [a1 _ (by decide)]; exact m10, by rw [a1 _ (by decide)]; exact m11, fun j hj => ?_, m13⟩
  obtain ⟨c, e1, e2⟩ := m12 j hj
  exact ⟨c, by rw [h.at (f := 2177) (k := 6) (by decide) (by omega)]; exact e1, e2.low h le⟩
section
variable {n : Nat} {kd pl : Nat → Nat} {vl : Nat → Int64}
theorem b_111 (H : z_H n kd) {u : g_St} {r : z_P} (h : M_b n kd pl vl u r) {s : Nat} (hs : s < 17) : ∃ t, f_M_readSelection_111 (some 1) (Int32.ofNat s) u = (if (z_skr kd 4 r).1 = true then f_M_readSelection_138 200000 (some 1) (Int32.ofNat s) 1 t else f_M_readSelection_191 (some 1) (Int32.ofNat s) t) ∧ M_b n kd pl vl t (z_skr kd 4 r).2 ∧ M_as (g_setAI (g_setAI u 2260 s (g_I u 3585 1)) 2324 s 0) t := by
  have B5 : M_b n kd pl vl (g_setAI (g_setAI u 2260 s (g_I u 3585 1)) 2324 s 0) r := (h.sI (by decide) (by decide) _ _).sI (by decide) (by decide) _ _
  obtain ⟨t, a1, a2, a3⟩ := b_sk H B5 (k := 4) (by decide)
  refine ⟨t, ?_, a2, a3⟩
  unfold f_M_readSelection_111
  rw [x_gR, (m_at h.1 m_k2497).1, x_gI, x_sI (by omega) (by rw [(m_at h.1 m_k2497).2]; exact hs), x_gR, show g_R (g_setAI u 2260 s (g_I u 3585 1)) 2561 1 = some 2324 from (m_at h.1 m_k2561).1, x_sI (by omega) (by show s < g_ln u 2324; rw [(m_at h.1 m_k2561).2]; exact hs), x_nn, show (5 : Int32) = z_km 4 from rfl, a1, x_c]
  cases (z_skr kd 4 r).1 <;> rfl
theorem b_191 (H : z_H n kd) {u : g_St} {r : z_P} (h : M_b n kd pl vl u r) {s : Nat} (hs : s < 17) : ∃ t, f_M_readSelection_191 (some 1) (Int32.ofNat s) u = (if (z_skr kd 5 r).1 = true then f_M_readSelection_209 200000 (some 1) (Int32.ofNat s) 1 t else M_E3 t) ∧ M_b n kd pl vl t (z_skr kd 5 r).2 ∧ M_as (g_setAI u 2388 s 0) t := by
  have B5 : M_b n kd pl vl (g_setAI u 2388 s 0) r := h.sI (by decide) (by decide) _ _
  obtain ⟨t, a1, a2, a3⟩ := b_sk H B5 (k := 5) (by decide)
  refine ⟨t, ?_, a2, a3⟩
  unfold f_M_readSelection_191
  rw [x_gR, (m_at h.1 m_k2625).1, x_sI (by omega) (by rw [(m_at h.1 m_k2625).2]; exact hs), x_nn, show (6 : Int32) = z_km 5 from rfl, a1, x_c]
  cases (z_skr kd 5 r).1 <;> rfl
theorem b_E3 {u : g_St} {r : z_P} (h : M_b n kd pl vl u r) : ∃ u', M_E3 u = some ((), u') ∧ M_b n kd pl vl u' r ∧ u' = g_setI u 2177 1 (g_I u 2177 1 + 1) := ⟨_, rfl, h.pI (by decide) (by decide) (by decide) _, rfl⟩
/-- what the two last steps give, when all went well: the state, its counters -/
theorem b_sel (H : z_H n kd) {u : g_St} {p : Nat} (h : M_b n kd pl vl u (.inr p)) {C : Nat → Nat} (hc : M_c u C) (hb : z_bg 0 p C) (hs : C 2177 < 17) (hk : 10 * C 3585 ≤ 30 * C 2177 + p) (hit : C 2817 ≤ 4 * C 2177) (w : Nat) : ∃ u', f_M_readSelection (some 1) (Int32.ofNat w) u = some ((), u') ∧ M_b n kd pl vl u' (z_ser kd vl p).2 ∧ ∀ q, (z_ser kd vl p).2 = .inr q → M_low u u' C ∧ ∃ C', M_c u' C' ∧ z_le C C' ∧ C' 1153 = C 1153 ∧ C' 2177 = C 2177 + 1 ∧ z_bg 1 q C' ∧ 10 * C' 3585 ≤ 30 * C' 2177 + q + 1 ∧ C' 2817 ≤ 4 * C' 2177 ∧ M_se pl u' C' (C 2177) w (z_ser kd vl p).1 := by
  have hp := h.le
  have hn := H.2.1
  generalize hS : C 2177 = s at hs hk hit
  -- up to SELECT
  obtain ⟨s10, h10⟩ : ∃ s10, s10 = g_setAI (g_setAI u 2004 s (Int32.ofNat w)) 2068 s (Int32.ofNat (pl p)) := ⟨_, rfl⟩
  have B10 : M_b n kd pl vl s10 (.inr p) := by rw [h10]; exact (h.sI (by decide) (by decide) _ _).sI (by decide) (by decide) _ _
  have C10 : M_c s10 C := by rw [h10]; exact (hc.sI _ _ _).sI _ _ _
  have L10 : M_low u s10 C := by rw [h10]; exact ((M_low.re).sI (f := 2177) (k := 1) (by decide) (by omega) _).sI (f := 2177) (k := 1) (by decide) (by omega) _
  obtain ⟨v, s12, a1, a2, a3, -⟩ := b_nd H B10 (k := 3) (by decide)
  obtain ⟨s19, h19⟩ : ∃ s19, s19 = g_setAI (g_setAI (g_setAI s12 2132 s (Int32.ofNat (C 2817))) 2196 s 0) 159 s 0 := ⟨_, rfl⟩
  have C12 := C10.as a3
  have B19 : M_b n kd pl vl s19 (z_ndr kd 3 (.inr p)) := by rw [h19]; exact ((a2.sI (by decide) (by decide) _ _).sI (by decide) (by decide) _ _).sI (by decide) (by decide) _ _
  have C19 : M_c s19 C := by rw [h19]; exact ((C12.sI _ _ _).sI _ _ _).sI _ _ _
  have L19 : M_low u s19 C := by
    rw [h19]
    exact (((L10.trans (M_low.as a3) z_le.re).sI (f := 2177) (k := 1) (by decide) (by omega) _).sI (f := 2177) (k := 1) (by decide) (by omega) _).sI (f := 2177) (k := 1) (by decide) (by omega) _
  have g19 : ∀ a j, g_AI s19 a j = if a = 159 ∧ j = s then 0 else if a = 2196 ∧ j = s then 0 else if a = 2132 ∧ j = s then Int32.ofNat (C 2817) else if a = 2068 ∧ j = s then Int32.ofNat (pl p) else if a = 2004 ∧ j = s then Int32.ofNat w else g_AI u a j := fun a j => by rw [h19, x_AI_AI, x_AI_AI, x_AI_AI, a3.1, h10, x_AI_AI, x_AI_AI]
  have start : f_M_readSelection (some 1) (Int32.ofNat w) u = f_M_readSelection_67 200000 (some 1) (Int32.ofNat s) 1 s19 := by
    unfold f_M_readSelection
    rw [x_nn, b_bad h, x_c, if_pos rfl, x_gI, hc _ (by decide), hS, x_gR, (m_at h.1 m_k2241).1, x_sI (by omega) (by rw [(m_at h.1 m_k2241).2]; exact hs), x_gR, show g_R (g_setAI u 2004 s (Int32.ofNat w)) 2305 1 = some 2068 from (m_at h.1 m_k2305).1, x_gR, show g_R (g_setAI u 2004 s (Int32.ofNat w)) 705 1 = some 1172 from (m_at h.1 m_k705).1, x_gI, show g_I (g_setAI u 2004 s (Int32.ofNat w)) 577 1 = Int32.ofNat p from h.2.2.1.2, x_aI (by omega) (by show p < g_ln u 1172; rw [(m_at h.1 m_k705).2]; omega), show g_AI (g_setAI u 2004 s (Int32.ofNat w)) 1172 p = Int32.ofNat (pl p) from (by rw [x_AI_AI, if_neg (fun q => by have := q.1; omega)]; exact (h.2.1 p hp).2.1), x_sI (by omega) (by show s < g_ln u 2068; rw [(m_at h.1 m_k2305).2]; exact hs), ← h10, x_nn, show (4 : Int32) = z_km 3 from rfl, a1, x_c, x_gR, (m_at a2.1 m_k2369).1, x_gI, C12 _ (by decide), x_sI (by omega) (by rw [(m_at a2.1 m_k2369).2]; exact hs), x_gR, show g_R (g_setAI s12 2132 s (Int32.ofNat (C 2817))) 2433 1 = some 2196 from (m_at a2.1 m_k2433).1, x_sI (by omega) (by show s < g_ln s12 2196; rw [(m_at a2.1 m_k2433).2]; exact hs), x_gR, show g_R (g_setAI (g_setAI s12 2132 s (Int32.ofNat (C 2817))) 2196 s 0) 2753 1 = some 159 from (m_at a2.1 m_k2753).1, x_sZ0 (by omega) (by show s < g_ln s12 159; rw [(m_at a2.1 m_k2753).2]; exact hs), ← h19]
  -- items
  have it : ∃ u1, f_M_readSelection_67 200000 (some 1) (Int32.ofNat s) 1 s19 = f_M_readSelection_111 (some 1) (Int32.ofNat s) u1 ∧ M_b n kd pl vl u1 (z_s1 kd p).2 ∧ (z_s1 kd p).1.length ≤ 4 ∧ ∀ q, (z_s1 kd p).2 = .inr q → ∃ C1, M_j1 s19 C s (p + 1) 1 q (z_s1 kd p).1 u1 C1 := by
    unfold z_s1
    cases hz : z_ndr kd 3 (.inr p) with
    | inl q =>
      rw [hz] at B19
      refine ⟨s19, ?_, B19, Nat.zero_le _, fun q w => by cases w⟩
      rw [f_M_readSelection_67, if_neg (by decide), x_nn, pM_badS B19.2.2.1.1, x_c, if_neg (by decide)]
    | inr q =>
      obtain ⟨p', e1, -, e2⟩ := z_ndr_ok hz
      cases e1
      rw [hz] at B19
      have hb' : z_bg 0 q C := ⟨by have := hb.1; omega, hb.2.1, by have := hb.2.2; omega⟩
      rw [← e2]
      exact b_its H B19 C19 hb' hs hS hit (by rw [g19, if_neg (fun y => by have := y.1; omega), if_pos ⟨rfl, rfl⟩]) (by rw [g19, if_pos ⟨rfl, rfl⟩])
  obtain ⟨u1, d1, d2, d3, d4⟩ := it
  obtain ⟨t1, e1, e2, e3⟩ := b_111 H d2 hs
  have ct1 : ∀ C1, M_c u1 C1 → M_c t1 C1 := fun C1 c1 => ((c1.sI _ _ _).sI _ _ _).as e3
  have k324 : g_AI t1 2324 s = 0 := by rw [e3.1, x_AI_AI, if_pos ⟨rfl, rfl⟩]
  -- sources
  have so : ∃ u2, (if (z_skr kd 4 (z_s1 kd p).2).1 = true then f_M_readSelection_138 200000 (some 1) (Int32.ofNat s) 1 t1 else f_M_readSelection_191 (some 1) (Int32.ofNat s) t1) = f_M_readSelection_191 (some 1) (Int32.ofNat s) u2 ∧ M_b n kd pl vl u2 (z_s2 kd p).2 ∧ (z_s2 kd p).1.length ≤ 3 ∧ ∀ q, (z_s2 kd p).2 = .inr q → ∃ q1 C1 C2, M_j1 s19 C s (p + 1) 1 q1 (z_s1 kd p).1 u1 C1 ∧ M_j2 t1 C1 s q1 1 q (z_s2 kd p).1 u2 C2 := by
    unfold z_s2
    cases hz : (z_skr kd 4 (z_s1 kd p).2).1 with
    | false =>
      rw [z_opt_f _ hz]
      refine ⟨t1, if_neg (by decide), e2, Nat.zero_le _, fun q hq => ?_⟩
      rw [z_skr_false hz] at hq
      obtain ⟨C1, j1⟩ := d4 q hq
      exact ⟨q, C1, C1, j1, ct1 C1 j1.1, z_le.re, M_low.re, j1.2.2.2.1, fun _ _ => rfl, rfl, k324, fun _ _ _ _ => rfl, ⟨Nat.le_refl _, fun j hj => by cases hj⟩, Nat.le_refl _⟩
    | true =>
      obtain ⟨q1, f1, f2, f3⟩ := z_skr_true hz
      rw [f3, z_opt_t]
      rw [f3] at e2
      obtain ⟨C1, j1⟩ := d4 q1 f1
      obtain ⟨c1, c2, c3, c4, c5, c6, c7, c8, c9, c10, c11⟩ := j1
      have k1 := c5 3585 (by decide) (by decide) (by decide)
      obtain ⟨u2, x1, x2, x3, x4⟩ := b_sos H e2 (ct1 C1 c1) ⟨by have := c4.1; omega, c4.2.1, by have := c4.2.2; omega⟩ hs (by rw [c5 _ (by decide) (by decide) (by decide)]; exact hS) (by omega) k324
      refine ⟨u2, (if_pos rfl).trans x1, x2, x3, fun q hq => ?_⟩
      obtain ⟨C2, y1, y2, y3, y4, y5, y6, y7, y8, y9, y10⟩ := x4 q hq
      exact ⟨q1, C1, C2, ⟨c1, c2, c3, c4, c5, c6, c7, c8, c9, c10, c11⟩, y1, y2, y3, y4, y5, y6, y7, y8, y9, by omega⟩
  obtain ⟨u2, o1, o2, o3, o4⟩ := so
  obtain ⟨t2, r1, r2, r3⟩ := b_191 H o2 hs
  have ct2 : ∀ C1, M_c u2 C1 → M_c t2 C1 := fun C1 c1 => (c1.sI _ _ _).as r3
  have k388 : g_AI t2 2388 s = 0 := by rw [r3.1, x_AI_AI, if_pos ⟨rfl, rfl⟩]
  -- how many sources
  have src : ∀ q1 q2 C1 C2, M_j1 s19 C s (p + 1) 1 q1 (z_s1 kd p).1 u1 C1 → M_j2 t1 C1 s q1 1 q2 (z_s2 kd p).1 u2 C2 → 10 * C2 3585 ≤ 30 * (s + 1) + q2 ∧ C2 2177 = s := fun q1 q2 C1 C2 j1 j2 => by
    obtain ⟨c1, c2, c3, c4, c5, c6, c7, c8, c9, c10, c11⟩ := j1
    obtain ⟨y1, y2, y3, y4, y5, y6, y7, y8, y9, y10⟩ := j2
    have k1 := c5 3585 (by decide) (by decide) (by decide)
    have k2 := c5 2177 (by decide) (by decide) (by decide)
    have k3 := y5 2177 (by decide)
    exact ⟨by omega, by omega⟩
  -- conditions
  have co : ∃ u3, (if (z_skr kd 5 (z_s2 kd p).2).1 = true then f_M_readSelection_209 200000 (some 1) (Int32.ofNat s) 1 t2 else M_E3 t2) = M_E3 u3 ∧ M_b n kd pl vl u3 (z_s3 kd vl p).2 ∧ (z_s3 kd vl p).1.length ≤ 6 ∧ ∀ q, (z_s3 kd vl p).2 = .inr q → ∃ q1 q2 C1 C2 C3, M_j1 s19 C s (p + 1) 1 q1 (z_s1 kd p).1 u1 C1 ∧ M_j2 t1 C1 s q1 1 q2 (z_s2 kd p).1 u2 C2 ∧ M_j3 t2 C2 s q2 1 q (z_s3 kd vl p).1 u3 C3 := by
    unfold z_s3
    cases hz : (z_skr kd 5 (z_s2 kd p).2).1 with
    | false =>
      rw [z_opt_f _ hz]
      refine ⟨t2, if_neg (by decide), r2, Nat.zero_le _, fun q hq => ?_⟩
      rw [z_skr_false hz] at hq
      obtain ⟨q1, C1, C2, j1, j2⟩ := o4 q hq
      have k1 := (src q1 q C1 C2 j1 j2).1
      exact ⟨q1, q, C1, C2, C2, j1, j2, ct2 C2 j2.1, z_le.re, M_low.re, j2.2.2.2.1, fun _ _ _ _ _ => rfl, by omega, k388, fun _ _ => rfl, (fun j hj => by cases hj), Nat.le_refl _⟩
    | true =>
      obtain ⟨q2, f1, f2, f3⟩ := z_skr_true hz
      rw [f3, z_opt_t]
      rw [f3] at r2
      obtain ⟨q1, C1, C2, j1, j2⟩ := o4 q2 f1
      obtain ⟨k1, k2⟩ := src q1 q2 C1 C2 j1 j2
      have c4 := j2.2.2.2.1
      obtain ⟨u3, x1, x2, x3, x4⟩ := b_cos H r2 (ct2 C2 j2.1) ⟨by have := c4.1; omega, c4.2.1, by have := c4.2.2; omega⟩ hs k2 (by omega) k388
      refine ⟨u3, (if_pos rfl).trans x1, x2, x3, fun q hq => ?_⟩
      obtain ⟨C3, y1, y2, y3, y4, y5, y6, y7, y8, y9, y10⟩ := x4 q hq
      exact ⟨q1, q2, C1, C2, C3, j1, j2, y1, y2, y3, y4, y5, y6, y7, y8, y9, by omega⟩
  obtain ⟨u3, x1, x2, x3, x4⟩ := co
  obtain ⟨u', v1, v2, v3⟩ := b_E3 x2
  refine ⟨u', start.trans (d1.trans (e1.trans (o1.trans (r1.trans (x1.trans v1))))), v2, fun q hq => ?_⟩
  obtain ⟨q1, q2, C1, C2, C3, j1, j2, j3⟩ := x4 q hq
  have k2 := (src q1 q2 C1 C2 j1 j2).2
  obtain ⟨c1, c2, c3, c4, c5, c6, c7, c8, c9, c10, c11⟩ := j1
  obtain ⟨y1, y2, y3, y4, y5, y6, y7, y8, y9, y10⟩ := j2
  obtain ⟨w1, w2, w3, w4, w5, w6, w7, w8, w9, w10⟩ := j3
  have n1 : C1 2177 = s := by rw [c5 _ (by decide) (by decide) (by decide)]; exact hS
  have n3 : C3 2177 = s := by rw [w5 _ (by decide) (by decide) (by decide) (by decide)]; exact k2
  have n4 : C3 2817 = C 2817 + (z_s1 kd p).1.length := by rw [w5 _ (by decide) (by decide) (by decide) (by decide), y5 _ (by decide)]; exact c6
  have n5 : C3 1153 = C 1153 := by rw [w5 _ (by decide) (by decide) (by decide) (by decide), y5 _ (by decide), c5 _ (by decide) (by decide) (by decide)]
  have la : M_low u1 t1 C1 := (((M_low.re).sI (f := 2177) (k := 1) (by decide) (by omega) _).sI (f := 2177) (k := 1) (by decide) (by omega) _).trans (M_low.as e3) z_le.re
  have lb : M_low u2 t2 C2 := ((M_low.re).sI (f := 2177) (k := 1) (by decide) (by omega) _).trans (M_low.as r3) z_le.re
  have l12 : M_low u1 u2 C1 := la.trans y3 z_le.re
  have l23 : M_low u2 u3 C2 := lb.trans w3 z_le.re
  have l34 : M_low u3 u' C3 := by rw [v3]; exact M_low.re.pI _ _
  have up : z_le C3 (z_up C3 2177 (s + 1)) := z_le.re.up (by omega)
  have a4 : ∀ a j, g_AI u' a j = g_AI u3 a j := fun a j => by rw [v3]; rfl
  have g2 : ∀ a, a = 159 ∨ a = 2004 ∨ a = 2068 ∨ a = 2132 ∨ a = 2196 ∨ a = 2260 ∨ a = 2324 → g_AI u' a s = g_AI u2 a s := fun a q => by
    rw [a4, w8 a q, r3.1, x_AI_AI, if_neg (fun y => by have := y.1; omega)]
  have g1 : ∀ a, a = 159 ∨ a = 2004 ∨ a = 2068 ∨ a = 2132 ∨ a = 2196 → g_AI u' a s = g_AI u1 a s := fun a q => by
    rw [g2 a (by omega), y8 a (by omega) (by omega) (by omega), e3.1, x_AI_AI, if_neg (fun y => by have := y.1; omega), x_AI_AI, if_neg (fun y => by have := y.1; omega)]
  refine ⟨(((L19.trans c3 z_le.re).trans l12 c2).trans l23 (c2.trans y2)).trans l34 ((c2.trans y2).trans w2), z_up C3 2177 (s + 1), ?_, (((c2.trans y2).trans w2).trans up), ?_, ?_, w4, ?_, ?_, ?_, ?_, ?_, ⟨C 2817, ?_, ?_⟩, ?_, ?_, ⟨C 3585, ?_, ?_⟩, ?_, ?_, fun j hj => ?_, d3, o3, x3⟩
  · rw [v3, w1 _ (by decide), n3, x_p1]
    exact w1.pI 2177 (s + 1)
  · exact n5
  · rfl
  · show 10 * C3 3585 ≤ 30 * (s + 1) + q + 1
    omega
  · show C3 2817 ≤ 4 * (s + 1)
    omega
  · show s < s + 1
    omega
  · rw [g1 2004 (by omega), c9 2004 (by omega), g19, if_neg (fun y => by have := y.1; omega), if_neg (fun y => by have := y.1; omega), if_neg (fun y => by have := y.1; omega), if_neg (fun y => by have := y.1; omega), if_pos ⟨rfl, rfl⟩]
  · rw [g1 2068 (by omega), c9 2068 (by omega), g19, if_neg (fun y => by have := y.1; omega), if_neg (fun y => by have := y.1; omega), if_neg (fun y => by have := y.1; omega), if_pos ⟨rfl, rfl⟩]
    rfl
  · rw [g1 2132 (by omega), c9 2132 (by omega), g19, if_neg (fun y => by have := y.1; omega), if_neg (fun y => by have := y.1; omega), if_pos ⟨rfl, rfl⟩]
  · exact ((c10.low l12 y2).low l23 w2).low l34 up
  · rw [g1 2196 (by omega)]; exact c7
  · rw [g1 159 (by omega)]; exact c8
  · rw [g2 2260 (by omega), y8 2260 (by decide) (by decide) (by decide), e3.1, x_AI_AI, if_neg (fun y => by have := y.1; omega), x_AI_AI, if_pos ⟨rfl, rfl⟩, c1 _ (by decide), c5 _ (by decide) (by decide) (by decide)]
  · have := (y9.low l23 w2).low l34 up
    rw [c5 3585 (by decide) (by decide) (by decide)] at this
    exact this
  · rw [g2 2324 (by omega)]; exact y7
  · rw [a4]; exact w7
  · obtain ⟨c, z1, z2⟩ := w9 j hj
    exact ⟨c, by rw [a4]; exact z1, z2.low l34 up⟩
end
