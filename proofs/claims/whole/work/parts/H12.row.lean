/-! CALLS: row, clear -/
theorem r_oor_i (x : Int32) : r_oor x.toInt64 = false := by
  have h1 := Int32.le_toInt x
  have h2 := Int32.toInt_lt x
  have e := Int32.toInt_toInt64 x
  unfold r_oor
  have a : decide (x.toInt64 < -2147483648) = false := decide_eq_false (fun h => by
    rw [Int64.lt_iff_toInt_lt, e] at h
    have : (-2147483648 : Int64).toInt = -2147483648 := rfl
    omega)
  have b : decide (x.toInt64 ≤ 2147483647) = true := decide_eq_true (by
    rw [Int64.le_iff_toInt_le, e]
    have : (2147483647 : Int64).toInt = 2147483647 := rfl
    omega)
  rw [a, b]
  cases decide (x.toInt64 = r_N) <;> rfl
theorem r_oor_z (x v : Int32) (k : Nat) : r_oor (z_nul x k v) = false := by
  unfold z_nul
  split
  · exact r_oor_N
  · exact r_oor_i v
theorem m_w33 {x1 x2 x3 x4 x5 c : Int32} {g : g_St} (hc : ¬ c ≤ 0) : f_M_row_33 (some 1) x1 x2 x3 x4 x5 (some 1) c g = some (0, g_setI g 1 1 c) := by
  unfold f_M_row_33
  rw [x_pI, x_gI, x_Iss, if_neg hc]
theorem m_l18 {x1 c : Int32} {g : g_St} (hc : ¬ c ≤ 0) : f_M_clear_18 (some 1) x1 (some 1) c g = some (0, g_setI g 1 1 c) := by
  unfold f_M_clear_18
  rw [x_pI, x_gI, x_Iss, if_neg hc]
theorem z_ca_ne {u : g_St} (Z : z_Ok u) {c c' a a' : Nat} (h : g_R u 69 c = some a) (h' : g_R u 69 c' = some a') (ne : c ≠ c') : a ≠ a' := fun e => by
  rw [← e] at h'
  rcases (Z.2 69 (by decide) _ _ h).2.2.2.2 69 (by decide) _ h' with y | y
  · have := (Z.2 69 (by decide) _ _ h).2.1
    rw [y] at this
    exact absurd this (by decide)
  · exact ne y.2.symm
theorem z_rowu {u u' : g_St} {a c r : Nat} {v0 v1 v2 : Int64} {N : Int32} (eu : u' = g_setI (g_setAL (g_setAL (g_setAL u a c v0) a (c + 1) v1) a (c + 2) v2) 261 r N) : (∀ k b, ¬ (k = 261 ∧ b = r) → g_I u' k b = g_I u k b) ∧ g_I u' 261 r = N ∧ (∀ b i, b ≠ a → g_AL u' b i = g_AL u b i) ∧ (∀ i, g_AL u' a i = if i = c + 2 then v2 else if i = c + 1 then v1 else if i = c then v0 else g_AL u a i) ∧ g_R u' = g_R u ∧ g_L u' = g_L u ∧ g_AR u' = g_AR u ∧ g_ln u' = g_ln u ∧ g_AI u' = g_AI u ∧ g_cnt u' = g_cnt u ∧ g_cn u' = g_cn u ∧ g_sn u' = g_sn u := by
  subst eu
  refine ⟨fun k b h => ?_, x_Iss _ _ _ _, fun b i h => ?_, fun i => ?_, rfl, rfl, rfl, rfl, rfl, rfl, rfl, rfl⟩
  · rw [x_I_I, if_neg h]
    rfl
  · show g_AL (g_setAL (g_setAL (g_setAL u a c v0) a (c + 1) v1) a (c + 2) v2) b i = _
    rw [x_AL_AL, if_neg (fun q => h q.1), x_AL_AL, if_neg (fun q => h q.1), x_AL_AL, if_neg (fun q => h q.1)]
  · show g_AL (g_setAL (g_setAL (g_setAL u a c v0) a (c + 1) v1) a (c + 2) v2) a i = _
    simp only [x_AL_AL, true_and]
theorem z_rowg {g g' : g_St} {c t : Nat} {v0 v1 v2 : Int64} {N : Int32} (eg : g' = g_setAI (g_setAL (g_setAL (g_setAL (g_setI g 1 1 0) 597 c v0) 597 (c + 1) v1) 597 (c + 2) v2) 980 t N) : (∀ i, g_AL g' 597 i = if i = c + 2 then v2 else if i = c + 1 then v1 else if i = c then v0 else g_AL g 597 i) ∧ (∀ i, g_AI g' 980 i = if i = t then N else g_AI g 980 i) ∧ g_I g' 1 1 = 0 := by
  subst eg
  have h0 : ∀ i, g_AL (g_setI g 1 1 0) 597 i = g_AL g 597 i := fun _ => rfl
  have h1 : ∀ i, g_AI (g_setAL (g_setAL (g_setAL (g_setI g 1 1 0) 597 c v0) 597 (c + 1) v1) 597 (c + 2) v2) 980 i = g_AI g 980 i := fun _ => rfl
  refine ⟨fun i => ?_, fun i => ?_, ?_⟩
  · show g_AL (g_setAL (g_setAL (g_setAL (g_setI g 1 1 0) 597 c v0) 597 (c + 1) v1) 597 (c + 2) v2) 597 i = _
    simp only [x_AL_AL, true_and, h0]
  · simp only [x_AI_AI, true_and, h1]
  · show g_I (g_setI g 1 1 0) 1 1 = 0
    exact x_Iss _ _ _ _
theorem op_row (x1 x2 x3 x4 x5 : Int32) : z_op 512 Inv (f_Lw_row (some 0) x1 x2 x3 x4 x5 (some 1237)) (f_M_row (some 1) x1 x2 x3 x4 x5) := by
  rintro n u hn ⟨g, nT, cols, cnt, cell, ca, len, T, hz, hJ⟩
  have rm := hJ.rm hn
  have no : ∀ (e : Nat) (k : Int32), (if e = 0 then some ((1 : Int32), g_bump u 8 512) else if e = 1 then some (2, g_bump u 8 512) else none) = some (k, g_bump u 8 512) → ¬ k = 0 → ¬ k ≤ 0 → f_E_row (some 0) x1 x2 x3 x4 x5 u = g_thr u e → f_M_row (some 1) x1 x2 x3 x4 x5 g = f_M_row_33 (some 1) x1 x2 x3 x4 x5 (some 1) k g → ∃ k b u1 u2, f_Lw_row (some 0) x1 x2 x3 x4 x5 (some 1237) u = some (k, u1) ∧ f_M_row (some 1) x1 x2 x3 x4 x5 u1 = some (b, u2) ∧ g_I u2 1 1 = k ∧ (k = 0 → 0 < g_ln u2 1237 ∧ g_AL u2 1237 0 = b.toInt64) ∧ Inv (n + 1) u2 := fun e k he hk hk2 h1 h2 => I_no (m := f_M_row (some 1) x1 x2 x3 x4 x5) (fun a b c => l_M_row x1 x2 x3 x4 x5 a b c) (fun s o a b => w_M_row x1 x2 x3 x4 x5 s a b) (by decide) (k := k) (by
      unfold f_Lw_row
      rw [x_nn, h1, x_thr (by omega) (by omega), x_cCr]
      exact he) hk hz (h2.trans (m_w33 hk2)) hJ
  obtain ⟨E, ⟨F, KW⟩, ⟨TE, TM, tc1, tc2⟩, ⟨X1, X2, X3⟩, fl, room, iq⟩ := hJ
  by_cases n0 : x1 < 0
  · refine no 0 1 rfl (by decide) (by decide) ?_ ?_
    · unfold f_E_row
      rw [if_pos n0]
    · unfold f_M_row
      rw [if_pos n0]
  by_cases lt : x1 < Int32.ofNat nT
  · have n5 := TE.2.1
    obtain ⟨t0, ht0, e0⟩ := z_nat n0 lt (by omega)
    have r29 : g_R u 0 0 = some 29 ∧ g_ln u 29 = 5 := E.1.1 (0, 0, 29, 5) (by decide)
    have r193 : g_R g 193 1 = some 980 ∧ g_ln g 980 = 5 := F (193, 980, 5) (by decide)
    obtain ⟨a1, a2, a3, a4, a5, a6, a7⟩ := TE.2.2.2 t0 ht0
    obtain ⟨b1, b2, b3, b4⟩ := TM.2.2 t0 ht0
    by_cases c16 : cnt t0 < 16
    · have cE := z_rowE (u := u) x2 x3 x4 x5 ht0 n5 TE.1 r29.1 r29.2 a1 a5 c16 a2 a3
      have cM := z_rowM (u := g) x2 x3 x4 x5 F ht0 n5 TM.1 b2 c16
      rw [← e0] at cE cM
      have V := v_E_row (u := u) (some 0) x1 x2 x3 x4 x5 u z_V.re cE
      have wM := w_M_row x1 x2 x3 x4 x5 g F cM
      obtain ⟨u', eu⟩ : ∃ u', u' = g_setI (g_setAL (g_setAL (g_setAL u (ca t0) (cnt t0 * 4) (z_nul x5 0 x2)) (ca t0) (cnt t0 * 4 + 1) (z_nul x5 1 x3)) (ca t0) (cnt t0 * 4 + 2) (z_nul x5 2 x4)) 261 ((5 + t0) * 64 + 5) (Int32.ofNat (cnt t0 + 1)) := ⟨_, rfl⟩
      obtain ⟨g', eg⟩ : ∃ g', g' = g_setAI (g_setAL (g_setAL (g_setAL (g_setI g 1 1 0) 597 (48 * t0 + 3 * cnt t0) (z_nul x5 0 x2)) 597 (48 * t0 + 3 * cnt t0 + 1) (z_nul x5 1 x3)) 597 (48 * t0 + 3 * cnt t0 + 2) (z_nul x5 2 x4)) 980 t0 (Int32.ofNat (cnt t0 + 1)) := ⟨_, rfl⟩
      rw [← eu] at cE V
      rw [← eg] at cM wM
      have V' : z_V false [261] [69] none u u' := V
      have wM' : z_W [1] [597, 980] g g' := wM
      have E' : E_0 u' := E.ev V' (by decide) (by decide) ⟨by decide, by decide, by decide⟩ (by decide)
      obtain ⟨I', Ir, L', Lc, Re, Le, ARe, lne, AIe, cnte, cne, sne⟩ := z_rowu eu
      obtain ⟨Lm, Am, g11⟩ := z_rowg eg
      have r533 : g_R u 69 261 = some 533 := (E.1.1 (69, 261, 533, 196) (by decide)).1
      have n533 : 533 ≠ ca t0 := z_ca_ne E.2.1 r533 a2 (by omega)
      have kq : K_q u u' := by
        refine ⟨⟨fun a a1 a2 => ⟨fun k _ _ _ _ => I' k a (fun h => by omega), fun k _ => by rw [Re], fun k => by rw [Le]⟩, fun a a1 a2 => ⟨by rw [ARe], by rw [lne]⟩⟩, by rw [Re], I' _ _ (fun h => by have := h.1; omega), fun q hq => I' _ _ (fun h => by have := h.2; omega), fun i => L' _ _ n533, fun i => by rw [AIe], fun i => by rw [AIe]⟩
      refine I_ok (m := f_M_row (some 1) x1 x2 x3 x4 x5) (fun a b c => l_M_row x1 x2 x3 x4 x5 a b c) (fun s o a b => w_M_row x1 x2 x3 x4 x5 s a b) (by decide) (s := u') (i := Int32.ofNat (cnt t0 + 1)) ?_ ((V'.toM E.2.1 E.2.2.2.2 (by decide) (by decide)).trans hz) F cM ?_ (nT := nT) (cols := cols) (cnt := fun t => if t = t0 then cnt t0 + 1 else cnt t) (cell := fun t i k => if t = t0 ∧ i = cnt t0 then (if k = 2 then z_nul x5 2 x4 else if k = 1 then z_nul x5 1 x3 else z_nul x5 0 x2) else cell t i k) (ca := ca) (len := len) (T := T) ?_
      · unfold f_Lw_row
        rw [x_nn, cE, x_cCl, z_sL0 E'.1.2.2.2.2.2]
      · exact g11
      · refine ⟨E', ⟨wM'.fx F, KW.w wM' (by decide)⟩, ⟨⟨by rw [I' _ _ (fun h => by have := h.1; omega)]; exact TE.1, n5, by rw [cnte]; exact TE.2.2.1, fun t ht => ?_⟩, ⟨by rw [wM'.fi (by decide)]; exact TM.1, n5, fun t ht => ?_⟩, tc1, fun t ht i k hi hk => ?_⟩, ⟨⟨by rw [I' _ _ (fun h => by have := h.1; omega)]; exact X1.1, X1.2.1, fun i hi => by rw [AIe]; exact X1.2.2 i hi⟩, ⟨by rw [wM'.fi (by decide)]; exact X2.1, X2.2.1, fun i hi => by rw [wM'.ai (by decide)]; exact X2.2.2 i hi⟩, X3⟩, by rw [I' _ _ (fun h => by have := h.1; omega), wM'.fi (by decide)]; exact fl, ⟨by rw [cne]; omega, by rw [sne]; omega⟩, iq.keep kq (wM'.mono (by decide) (by decide)) (Nat.le_refl _) (fun _ _ => rfl)⟩
        · obtain ⟨d1, d2, d3, d4, d5, d6, d7⟩ := TE.2.2.2 t ht
          simp only []
          have AR' : g_AR u' 29 t = g_AR u 29 t := by rw [ARe]
          have R' : g_R u' 69 ((5 + t) * 64 + 5) = g_R u 69 ((5 + t) * 64 + 5) := by rw [Re]
          have ln' : g_ln u' (ca t) = g_ln u (ca t) := by rw [lne]
          rw [AR', R', ln', I' 5 _ (fun h => by have := h.1; omega)]
          by_cases e : t = t0
          · rw [if_pos e]
            refine ⟨d1, d2, d3, d4, by rw [e]; exact Ir, by omega, fun i k hi hk => ?_⟩
            rw [e, Lc]
            by_cases ei : i = cnt t0
            · rw [if_pos (show t0 = t0 ∧ i = cnt t0 from ⟨rfl, ei⟩)]
              have : k = 0 ∨ k = 1 ∨ k = 2 := by omega
              rcases this with hk | hk | hk
              · rw [if_neg (by omega), if_neg (by omega), if_pos (by omega), if_neg (by omega), if_neg (by omega)]
              · rw [if_neg (by omega), if_pos (by omega), if_neg (by omega), if_pos hk]
              · rw [if_pos (by omega), if_pos hk]
            · rw [if_neg (by omega), if_neg (by omega), if_neg (by omega), if_neg (fun h => ei h.2)]
              exact a7 i k (by omega) hk
          · rw [if_neg e]
            have nca : ca t ≠ ca t0 := z_ca_ne E.2.1 d2 a2 (by omega)
            refine ⟨d1, d2, d3, d4, by rw [I' _ _ (fun h => by have := h.2; omega)]; exact d5, d6, fun i k hi hk => ?_⟩
            rw [L' _ _ nca, if_neg (fun h => e h.1)]
            exact d7 i k hi hk
        · obtain ⟨d1, d2, d3, d4⟩ := TM.2.2 t ht
          simp only []
          rw [wM'.ai (show 916 ∉ [597, 980] by decide), Am]
          by_cases e : t = t0
          · rw [if_pos e, if_pos e]
            refine ⟨d1, rfl, by omega, fun i k hi hk => ?_⟩
            rw [e, Lm]
            by_cases ei : i = cnt t0
            · rw [if_pos (show t0 = t0 ∧ i = cnt t0 from ⟨rfl, ei⟩)]
              have : k = 0 ∨ k = 1 ∨ k = 2 := by omega
              rcases this with hk | hk | hk
              · rw [if_neg (by omega), if_neg (by omega), if_pos (by omega), if_neg (by omega), if_neg (by omega)]
              · rw [if_neg (by omega), if_pos (by omega), if_neg (by omega), if_pos hk]
              · rw [if_pos (by omega), if_pos hk]
            · rw [if_neg (by omega), if_neg (by omega), if_neg (by omega), if_neg (fun h => ei h.2)]
              exact b4 i k (by omega) hk
          · rw [if_neg e, if_neg e]
            refine ⟨d1, d2, d3, fun i k hi hk => ?_⟩
            rw [Lm, if_neg (by omega), if_neg (by omega), if_neg (by omega), if_neg (fun h => e h.1)]
            exact d4 i k hi hk
        · simp only [] at hi ⊢
          by_cases e : t = t0 ∧ i = cnt t0
          · rw [if_pos e]
            split
            · exact r_oor_z _ _ _
            · split
              · exact r_oor_z _ _ _
              · exact r_oor_z _ _ _
          · rw [if_neg e]
            refine tc2 t ht i k ?_ hk
            by_cases e2 : t = t0
            · rw [if_pos e2] at hi
              have : i ≠ cnt t0 := fun h => e ⟨e2, h⟩
              rw [e2]
              omega
            · rw [if_neg e2] at hi
              exact hi
    · have e16 : cnt t0 = 16 := by omega
      refine no 1 2 rfl (by decide) (by decide) ?_ ?_
      · unfold f_E_row
        rw [if_neg n0, x_gI, TE.1, if_pos lt, x_gR, r29.1, e0, x_aR (by omega) (by omega), a1, x_gI, a5, if_neg (by rw [e16]; decide)]
      · unfold f_M_row
        rw [if_neg n0, x_gI, TM.1, if_pos lt, x_gR, r193.1, e0, x_aI (by omega) (by omega), b2, if_pos (by rw [e16]; rfl)]
  · refine no 0 1 rfl (by decide) (by decide) ?_ ?_
    · unfold f_E_row
      rw [if_neg n0, x_gI, TE.1, if_neg lt]
    · unfold f_M_row
      rw [if_neg n0, x_gI, TM.1, if_neg lt]
theorem op_clear (x1 : Int32) : z_op 512 Inv (f_Lw_clear (some 0) x1 (some 1237)) (f_M_clear (some 1) x1) := by
  rintro n u hn ⟨g, nT, cols, cnt, cell, ca, len, T, hz, hJ⟩
  have rm := hJ.rm hn
  have no : f_E_clear (some 0) x1 u = g_thr u 0 → f_M_clear (some 1) x1 g = f_M_clear_18 (some 1) x1 (some 1) 1 g → ∃ k b u1 u2, f_Lw_clear (some 0) x1 (some 1237) u = some (k, u1) ∧ f_M_clear (some 1) x1 u1 = some (b, u2) ∧ g_I u2 1 1 = k ∧ (k = 0 → 0 < g_ln u2 1237 ∧ g_AL u2 1237 0 = b.toInt64) ∧ Inv (n + 1) u2 := fun h1 h2 => I_no (m := f_M_clear (some 1) x1) (fun a b c => l_M_clear x1 a b c) (fun s o a b => w_M_clear x1 s a b) (by decide) (k := 1) (by
      unfold f_Lw_clear
      rw [x_nn, h1, x_thr (by omega) (by omega), x_cCr, if_pos rfl]) (by decide) hz (h2.trans (m_l18 (by decide))) hJ
  obtain ⟨E, ⟨F, KW⟩, ⟨TE, TM, tc1, tc2⟩, ⟨X1, X2, X3⟩, fl, room, iq⟩ := hJ
  by_cases n0 : x1 < 0
  · refine no ?_ ?_
    · unfold f_E_clear
      rw [if_pos n0]
    · unfold f_M_clear
      rw [if_pos n0]
  by_cases lt : x1 < Int32.ofNat nT
  · have n5 := TE.2.1
    obtain ⟨t0, ht0, e0⟩ := z_nat n0 lt (by omega)
    have r29 : g_R u 0 0 = some 29 ∧ g_ln u 29 = 5 := E.1.1 (0, 0, 29, 5) (by decide)
    obtain ⟨a1, a2, a3, a4, a5, a6, a7⟩ := TE.2.2.2 t0 ht0
    obtain ⟨b1, b2, b3, b4⟩ := TM.2.2 t0 ht0
    have cE := z_clearE (u := u) ht0 n5 TE.1 r29.1 r29.2 a1 a5
    have cM := z_clearM (u := g) F ht0 n5 TM.1 b2
    rw [← e0] at cE cM
    have V := v_E_clear (u := u) (some 0) x1 u z_V.re cE
    have wM := w_M_clear x1 g F cM
    obtain ⟨u', eu⟩ : ∃ u', u' = g_setI u 261 ((5 + t0) * 64 + 5) 0 := ⟨_, rfl⟩
    obtain ⟨g', eg⟩ : ∃ g', g' = g_setAI (g_setI g 1 1 0) 980 t0 0 := ⟨_, rfl⟩
    rw [← eu] at cE V
    rw [← eg] at cM wM
    have V' : z_V false [261] [] none u u' := V
    have wM' : z_W [1] [980] g g' := wM
    have E' : E_0 u' := E.ev V' (by decide) (by decide) ⟨by decide, by decide, by decide⟩ (by decide)
    have I' : ∀ k a, ¬ (k = 261 ∧ a = (5 + t0) * 64 + 5) → g_I u' k a = g_I u k a := fun k a h => by rw [eu, x_I_I, if_neg h]
    have kq : K_q u u' := by
      refine ⟨⟨fun a a1 a2 => ⟨fun k _ _ _ _ => I' k a (fun h => by omega), fun k _ => by rw [eu]; rfl, fun k => by rw [eu]; rfl⟩, fun a a1 a2 => ⟨by rw [eu]; rfl, by rw [eu]; rfl⟩⟩, by rw [eu]; rfl, I' _ _ (fun h => by have := h.1; omega), fun q hq => I' _ _ (fun h => by have := h.2; omega), fun i => by rw [eu]; rfl, fun i => by rw [eu]; rfl, fun i => by rw [eu]; rfl⟩
    refine I_ok (m := f_M_clear (some 1) x1) (fun a b c => l_M_clear x1 a b c) (fun s o a b => w_M_clear x1 s a b) (by decide) (s := u') (i := Int32.ofNat (cnt t0)) ?_ ((V'.toM E.2.1 E.2.2.2.2 (by decide) (by decide)).trans hz) F cM ?_ (nT := nT) (cols := cols) (cnt := fun t => if t = t0 then 0 else cnt t) (cell := cell) (ca := ca) (len := len) (T := T) ?_
    · unfold f_Lw_clear
      rw [x_nn, cE, x_cCl, z_sL0 E'.1.2.2.2.2.2]
    · rw [eg]
      show g_I (g_setI g 1 1 0) 1 1 = 0
      exact x_Iss _ _ _ _
    · refine ⟨E', ⟨wM'.fx F, KW.w wM' (by decide)⟩, ⟨⟨by rw [I' _ _ (fun h => by have := h.1; omega)]; exact TE.1, n5, by rw [eu]; exact TE.2.2.1, fun t ht => ?_⟩, ⟨by rw [wM'.fi (by decide)]; exact TM.1, n5, fun t ht => ?_⟩, tc1, fun t ht i k hi hk => ?_⟩, ⟨⟨by rw [I' _ _ (fun h => by have := h.1; omega)]; exact X1.1, X1.2.1, fun i hi => by rw [eu]; exact X1.2.2 i hi⟩, ⟨by rw [wM'.fi (by decide)]; exact X2.1, X2.2.1, fun i hi => by rw [wM'.ai (by decide)]; exact X2.2.2 i hi⟩, X3⟩, by rw [I' _ _ (fun h => by have := h.1; omega), wM'.fi (by decide)]; exact fl, ⟨by rw [eu]; show g_cn u + _ ≤ _; omega, by rw [eu]; show g_sn u + _ ≤ _; omega⟩, iq.keep kq (wM'.mono (by decide) (by decide)) (Nat.le_refl _) (fun _ _ => rfl)⟩
      · obtain ⟨d1, d2, d3, d4, d5, d6, d7⟩ := TE.2.2.2 t ht
        simp only []
        have AR' : g_AR u' 29 t = g_AR u 29 t := by rw [eu]; rfl
        have R' : g_R u' 69 ((5 + t) * 64 + 5) = g_R u 69 ((5 + t) * 64 + 5) := by rw [eu]; rfl
        have ln' : g_ln u' (ca t) = g_ln u (ca t) := by rw [eu]; rfl
        have L' : ∀ i, g_AL u' (ca t) i = g_AL u (ca t) i := fun i => by rw [eu]; rfl
        rw [AR', R', ln', I' 5 _ (fun h => by have := h.1; omega)]
        by_cases e : t = t0
        · rw [if_pos e]
          exact ⟨d1, d2, d3, d4, by rw [e, eu, x_Iss]; rfl, by omega, fun i k hi => by omega⟩
        · rw [if_neg e]
          exact ⟨d1, d2, d3, d4, by rw [I' _ _ (fun h => by have := h.2; omega)]; exact d5, d6, fun i k hi hk => by rw [L']; exact d7 i k hi hk⟩
      · obtain ⟨d1, d2, d3, d4⟩ := TM.2.2 t ht
        simp only []
        have A' : ∀ i, g_AI g' 980 i = if i = t0 then 0 else g_AI g 980 i := fun i => by
          rw [eg, x_AI_AI]
          simp only [true_and]
          rfl
        rw [wM'.ai (show 916 ∉ [980] by decide), wM'.al (show 597 ∉ [980] by decide), A']
        by_cases e : t = t0
        · rw [if_pos e, if_pos e]
          exact ⟨d1, rfl, by omega, fun i k hi => by omega⟩
        · rw [if_neg e, if_neg e]
          exact ⟨d1, d2, d3, d4⟩
      · simp only [] at hi
        by_cases e : t = t0
        · rw [if_pos e] at hi; omega
        · rw [if_neg e] at hi; exact tc2 t ht i k hi hk
  · refine no ?_ ?_
    · unfold f_E_clear
      rw [if_neg n0, x_gI, TE.1, if_neg lt]
    · unfold f_M_clear
      rw [if_neg n0, x_gI, TM.1, if_neg lt]
