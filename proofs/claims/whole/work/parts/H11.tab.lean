/-! CALLS: table -/
theorem m_t28 {x1 c : Int32} {g : g_St} (hc : ¬ c ≤ 0) : f_M_table_28 (some 1) x1 (some 1) c g = some (0, g_setI g 1 1 c) := by
  unfold f_M_table_28
  rw [x_pI, x_gI, x_Iss, if_neg hc]
theorem z_kwOk.w {wI wA : List Nat} {g g' : g_St} (h : z_kwOk g) (w : z_W wI wA g g') (hA : 661 ∉ wA) : z_kwOk g' := fun k h1 h2 => by rw [w.al hA]; exact h k h1 h2
/-- a relation is made: what is as it was -/
theorem z_mkRl_o {u : g_St} (m : Nat) (x : Int32) {a : Nat} (h5 : a % 64 ≠ 5) (h20 : a % 64 ≠ 20) (h21 : a % 64 ≠ 21) : (∀ k, g_I (z_mkRl u m x) k a = g_I u k a ∧ g_R (z_mkRl u m x) k a = g_R u k a ∧ g_L (z_mkRl u m x) k a = g_L u k a) ∧ g_AR (z_mkRl u m x) a = g_AR u a ∧ g_ln (z_mkRl u m x) a = g_ln u a := by
  have e5 : a ≠ g_cnt u 5 * 64 + 5 := fun e => h5 (by omega)
  have e21 : a ≠ g_cnt u 21 * 64 + 21 := fun e => h21 (by omega)
  have e20 : a ≠ g_cnt u 20 * 64 + 20 := fun e => h20 (by omega)
  have e20' : a ≠ (g_cnt u 20 + 1) * 64 + 20 := fun e => h20 (by omega)
  refine ⟨fun k => ⟨?_, ?_, ?_⟩, ?_, ?_⟩
  · simp [z_mkRl, x_I_R, x_I_I, x_I_mk, x_cnt_R, x_cnt_I, x_cnt_mk, e5, e21, e20, e20']
  · simp [z_mkRl, x_R_R, x_R_I, x_R_mk, x_cnt_R, x_cnt_I, x_cnt_mk, e5, e21, e20, e20']
  · simp [z_mkRl, x_L_R, x_L_I, x_L_mk, x_cnt_R, x_cnt_I, x_cnt_mk, e5, e21, e20, e20']
  · funext i
    simp [z_mkRl, x_AR_R, x_AR_I, x_AR_mk, x_cnt_R, x_cnt_I, x_cnt_mk, e5, e21, e20, e20']
  · simp [z_mkRl, x_ln_R, x_ln_I, x_ln_mk, x_cnt_R, x_cnt_I, x_cnt_mk, e5, e21, e20, e20']
theorem z_mkRl_n {u : g_St} (m : Nat) (x : Int32) : g_I (z_mkRl u m x) 5 (g_cnt u 5 * 64 + 5) = x ∧ g_I (z_mkRl u m x) 261 (g_cnt u 5 * 64 + 5) = 0 ∧ g_R (z_mkRl u m x) 69 (g_cnt u 5 * 64 + 5) = some (g_cnt u 21 * 64 + 21) ∧ g_ln (z_mkRl u m x) (g_cnt u 21 * 64 + 21) = (m + 1) * 4 ∧ g_cnt (z_mkRl u m x) 5 = g_cnt u 5 + 1 ∧ g_cn (z_mkRl u m x) = g_cn u + 4 ∧ g_sn (z_mkRl u m x) = g_sn u + 7 + (m + 1) * 4 + (m + 1) + (m + 1) := by
  have e1 : g_cnt u 5 * 64 + 5 ≠ g_cnt u 21 * 64 + 21 := by omega
  have e2 : g_cnt u 5 * 64 + 5 ≠ g_cnt u 20 * 64 + 20 := by omega
  have e3 : g_cnt u 5 * 64 + 5 ≠ (g_cnt u 20 + 1) * 64 + 20 := by omega
  have e4 : g_cnt u 21 * 64 + 21 ≠ g_cnt u 20 * 64 + 20 := by omega
  have e5 : g_cnt u 21 * 64 + 21 ≠ (g_cnt u 20 + 1) * 64 + 20 := by omega
  refine ⟨?_, ?_, ?_, ?_, ?_, rfl, rfl⟩
  · simp [z_mkRl, x_I_R, x_I_I, x_I_mk, x_cnt_R, x_cnt_I, x_cnt_mk]
    rw [if_neg (by omega), if_neg (by omega), if_neg (by omega)]
  · simp [z_mkRl, x_I_R, x_I_I, x_I_mk, x_cnt_R, x_cnt_I, x_cnt_mk, e1, e2, e3]
  · simp [z_mkRl, x_R_R, x_R_I, x_R_mk, x_cnt_R, x_cnt_I, x_cnt_mk]
    exact ⟨by omega, by omega⟩
  · simp [z_mkRl, x_ln_R, x_ln_I, x_ln_mk, x_cnt_R, x_cnt_I, x_cnt_mk, e4, e5]
  · simp [z_mkRl, x_cnt_R, x_cnt_I, x_cnt_mk]
theorem op_table (x1 : Int32) : z_op 512 Inv (f_Lw_table (some 0) x1 (some 1237)) (f_M_table (some 1) x1) := by
  rintro n u hn ⟨g, nT, cols, cnt, cell, ca, len, T, hz, hJ⟩
  have rm := hJ.rm hn
  have no : ∀ (e : Nat) (k : Int32), (if e = 0 then some ((1 : Int32), g_bump u 8 512) else if e = 1 then some (2, g_bump u 8 512) else none) = some (k, g_bump u 8 512) → ¬ k = 0 → ¬ k ≤ 0 → f_E_table (some 0) x1 u = g_thr u e → f_M_table (some 1) x1 g = f_M_table_28 (some 1) x1 (some 1) k g → ∃ k b u1 u2, f_Lw_table (some 0) x1 (some 1237) u = some (k, u1) ∧ f_M_table (some 1) x1 u1 = some (b, u2) ∧ g_I u2 1 1 = k ∧ (k = 0 → 0 < g_ln u2 1237 ∧ g_AL u2 1237 0 = b.toInt64) ∧ Inv (n + 1) u2 := fun e k he hk hk2 h1 h2 => I_no (m := f_M_table (some 1) x1) (fun a b c => l_M_table x1 a b c) (fun s o a b => w_M_table x1 s a b) (by decide) (k := k) (by
      unfold f_Lw_table
      rw [x_nn, h1, x_thr (by omega) (by omega), x_cCr]
      exact he) hk hz (h2.trans (m_t28 hk2)) hJ
  obtain ⟨E, ⟨F, KW⟩, ⟨TE, TM, tc1, tc2⟩, ⟨X1, X2, X3⟩, fl, room, iq⟩ := hJ
  by_cases c1 : x1 < 1
  · refine no 0 1 rfl (by decide) (by decide) ?_ ?_
    · unfold f_E_table
      rw [if_pos c1]
    · unfold f_M_table
      rw [if_pos c1]
  by_cases c3 : x1 ≤ 3
  · by_cases c5 : nT < 5
    · have r29 : g_R u 0 0 = some 29 ∧ g_ln u 29 = 5 := E.1.1 (0, 0, 29, 5) (by decide)
      have a29 : g_al u 29 := E.2.2.1 29 (by decide)
      have cE := z_tableE (u := u) (n := nT) c1 c3 c5 TE.1 r29.1 r29.2 a29 (by rw [TE.2.2.1]; omega) (by omega) (by omega)
      have V := v_E_table (u := u) (some 0) x1 u z_V.re cE
      have cM := z_tableM (u := g) F c1 c3 c5 TM.1
      have wM := w_M_table x1 g F cM
      have h5 := TE.2.2.1
      obtain ⟨n1, n2, n3, n4, n5, n6, n7⟩ := z_mkRl_n (u := u) 16 x1
      rw [h5] at cE V n1 n2 n3 n5
      obtain ⟨c, hc1, hc3, ec⟩ : ∃ c, 1 ≤ c ∧ c ≤ 3 ∧ x1 = Int32.ofNat c := by
        rcases z_lt1 c1 c3 with e | e | e
        · exact ⟨1, by decide, by decide, e⟩
        · exact ⟨2, by decide, by decide, e⟩
        · exact ⟨3, by decide, by decide, e⟩
      obtain ⟨u', eu⟩ : ∃ u', u' = g_setI (g_setAR (z_mkRl u 16 x1) 29 nT (some ((5 + nT) * 64 + 5))) 64 0 (Int32.ofNat (nT + 1)) := ⟨_, rfl⟩
      rw [← eu] at cE V
      have V' : z_V false [64] [0] none u u' := V
      have E' : E_0 u' := E.ev V' (by decide) (by decide) ⟨by decide, by decide, by decide⟩ (by decide)
      have alT : ∀ t, t < nT → g_al u ((5 + t) * 64 + 5) := fun t ht => by
        show ((5 + t) * 64 + 5) / 64 < g_cnt u (((5 + t) * 64 + 5) % 64)
        rw [show ((5 + t) * 64 + 5) % 64 = 5 by omega, show ((5 + t) * 64 + 5) / 64 = 5 + t by omega, h5]
        omega
      have I' : ∀ k a, ¬ (k = 64 ∧ a = 0) → g_I u' k a = g_I (z_mkRl u 16 x1) k a := fun k a h => by rw [eu, x_I_I, if_neg h]; rfl
      have R' : ∀ k a, g_R u' k a = g_R (z_mkRl u 16 x1) k a := fun k a => by rw [eu]; rfl
      have ln' : ∀ a, g_ln u' a = g_ln (z_mkRl u 16 x1) a := fun a => by rw [eu]; rfl
      have AR' : ∀ a i, g_AR u' a i = if a = 29 ∧ i = nT then some ((5 + nT) * 64 + 5) else g_AR (z_mkRl u 16 x1) a i := fun a i => by rw [eu]; rfl
      have o29 := z_mkRl_o (u := u) 16 x1 (a := 29) (by decide) (by decide) (by decide)
      have kq : K_q u u' := by
        refine ⟨⟨fun a a1 a2 => ?_, fun a a1 a2 => ?_⟩, ?_, ?_, fun q hq => ?_, fun i => ?_, fun i => ?_, fun i => ?_⟩
        · obtain ⟨o1, -⟩ := z_mkRl_o (u := u) 16 x1 (a := a) (by omega) (by omega) (by omega)
          refine ⟨fun k _ _ _ _ => by rw [I' k a (fun h => by omega)]; exact (o1 k).1, fun k _ => by rw [R']; exact (o1 k).2.1, fun k => ?_⟩
          rw [eu]
          exact (o1 k).2.2
        · obtain ⟨-, o2, o3⟩ := z_mkRl_o (u := u) 16 x1 (a := a) (by omega) (by omega) (by omega)
          by_cases e29 : a = 29
          · exfalso; omega
          · exact ⟨by funext i; rw [AR', if_neg (fun h => e29 h.1), o2], by rw [ln']; exact o3⟩
        · rw [(V'.2.1 320 0 E.al.1 (by decide) (by simp)).2.2]
        · rw [(V'.2.1 448 0 E.al.1 (by decide) (by simp)).1]
        · rw [(V'.2.1 261 (64 * q + 5) (E.2.2.1 _ (by
            have : q = 0 ∨ q = 1 ∨ q = 2 ∨ q = 3 ∨ q = 4 := by omega
            rcases this with e | e | e | e | e <;> (rw [e]; decide))) (by decide) (by simp)).1]
        · rw [(V'.arr E.2.1 (by decide) (k0 := 69) (by decide) (E.1.1 (69, 261, 533, 196) (by decide)).1 (by decide) (by decide)).2.2.2.1]
        · rw [(V'.arr E.2.1 (by decide) (k0 := 132) (by decide) (E.1.1 (132, 4, 148, 49) (by decide)).1 (by decide) (by decide)).2.2.1]
        · rw [(V'.arr E.2.1 (by decide) (k0 := 68) (by decide) (E.1.1 (68, 4, 84, 124) (by decide)).1 (by decide) (by decide)).2.2.1]
      refine I_ok (m := f_M_table (some 1) x1) (fun a b c => l_M_table x1 a b c) (fun s o a b => w_M_table x1 s a b) (by decide) (s := u') (i := Int32.ofNat nT) ?_ ((V'.toM E.2.1 E.2.2.2.2 (by decide) (by decide)).trans hz) F cM ?_ (nT := nT + 1) (cols := fun t => if t = nT then c else cols t) (cnt := fun t => if t = nT then 0 else cnt t) (cell := cell) (ca := fun t => if t = nT then g_cnt u 21 * 64 + 21 else ca t) (len := len) (T := T) ?_
      · unfold f_Lw_table
        rw [x_nn, cE, x_cCl, z_sL0 E'.1.2.2.2.2.2]
      · rw [x_I_I, if_neg (by decide)]
        show g_I (g_setI g 1 1 0) 1 1 = 0
        exact x_Iss _ _ _ _
      · refine ⟨E', ⟨wM.fx F, KW.w wM (by decide)⟩, ⟨⟨by rw [eu, x_Iss], by omega, by rw [eu]; show g_cnt (z_mkRl u 16 x1) 5 = _; rw [n5]; omega, fun t ht => ?_⟩, ⟨x_Iss _ _ _ _, by omega, fun t ht => ?_⟩, fun t ht => ?_, fun t ht i k hi hk => ?_⟩, ⟨⟨by rw [(V'.2.1 66 2 E.al.2.1 (by decide) (by simp)).1]; exact X1.1, X1.2.1, fun i hi => ?_⟩, ⟨by rw [wM.fi (by decide)]; exact X2.1, X2.2.1, fun i hi => by rw [wM.ai (by decide)]; exact X2.2.2 i hi⟩, X3⟩, by rw [(V'.2.1 384 0 E.al.1 (by decide) (by simp)).1, wM.fi (by decide)]; exact fl, ⟨?_, ?_⟩, iq.keep kq (wM.mono (by decide) (by decide)) (by omega) (fun t ht => by show (if t = nT then c else cols t) = cols t; rw [if_neg (by omega)])⟩
        · simp only []
          by_cases e : t = nT
          · rw [if_pos e, e, AR', if_pos ⟨rfl, rfl⟩, R', ln', I' _ _ (fun h => by omega), I' _ _ (fun h => by omega)]
            exact ⟨rfl, n3, n4, by rw [n1, if_pos rfl]; exact ec, by rw [n2, if_pos rfl]; rfl, by rw [if_pos rfl]; exact Nat.zero_le _, fun i k hi => by rw [if_pos rfl] at hi; omega⟩
          · rw [if_neg e, AR', if_neg (fun h => e h.2), o29.2.1]
            obtain ⟨a1, a2, a3, a4, a5, a6, a7⟩ := TE.2.2.2 t (by omega)
            obtain ⟨b1, b2, b3⟩ := V'.2.1 69 _ (alT t (by omega)) (by decide) (by simp)
            have b5 := (V'.2.1 5 _ (alT t (by omega)) (by decide) (by simp)).1
            have b6 := (V'.2.1 261 _ (alT t (by omega)) (by decide) (by simp)).1
            have ar := V'.arr E.2.1 (by decide) (k0 := 69) (by decide) a2 (fun h => by
              have := (E.2.1.2 69 (by decide) _ _ a2).2.1
              rw [h] at this
              exact absurd this (by decide)) (by decide)
            exact ⟨a1, by rw [b3]; exact a2, by rw [ar.2.1]; exact a3, by rw [b5, if_neg e]; exact a4, by rw [b6, if_neg e]; exact a5, by rw [if_neg e]; exact a6, fun i k hi hk => by rw [if_neg e] at hi; rw [ar.2.2.2.1]; exact a7 i k hi hk⟩
        · simp only []
          by_cases e : t = nT
          · rw [if_pos e, if_pos e, e]
            refine ⟨?_, ?_, Nat.zero_le _, fun i k hi => by omega⟩
            · show g_AI (g_setAI (g_setAI (g_setI g 1 1 0) 916 nT x1) 980 nT 0) 916 nT = _
              rw [x_AI_AI, if_neg (fun h => by have := h.1; omega), x_AI_AI, if_pos ⟨rfl, rfl⟩]
              exact ec
            · show g_AI (g_setAI (g_setAI (g_setI g 1 1 0) 916 nT x1) 980 nT 0) 980 nT = _
              rw [x_AI_AI, if_pos ⟨rfl, rfl⟩]
              rfl
          · obtain ⟨a1, a2, a3, a4⟩ := TM.2.2 t (by omega)
            rw [if_neg e, if_neg e]
            refine ⟨?_, ?_, a3, a4⟩
            · show g_AI (g_setAI (g_setAI (g_setI g 1 1 0) 916 nT x1) 980 nT 0) 916 t = _
              rw [x_AI_AI, if_neg (fun h => by have := h.1; omega), x_AI_AI, if_neg (fun h => e h.2)]
              exact a1
            · show g_AI (g_setAI (g_setAI (g_setI g 1 1 0) 916 nT x1) 980 nT 0) 980 t = _
              rw [x_AI_AI, if_neg (fun h => e h.2), x_AI_AI, if_neg (fun h => by have := h.1; omega)]
              exact a2
        · simp only []
          by_cases e : t = nT
          · rw [if_pos e]; exact ⟨hc1, hc3⟩
          · rw [if_neg e]; exact tc1 t (by omega)
        · simp only [] at hi
          by_cases e : t = nT
          · rw [if_pos e] at hi; omega
          · rw [if_neg e] at hi; exact tc2 t (by omega) i k hi hk
        · rw [(V'.arr E.2.1 (by decide) (k0 := 2) (by decide) (E.1.1 (2, 2, 22, 400) (by decide)).1 (by decide) (by decide)).2.2.1]
          exact X1.2.2 i hi
        · rw [eu]; show g_cn (z_mkRl u 16 x1) + _ ≤ _; rw [n6]; omega
        · rw [eu]; show g_sn (z_mkRl u 16 x1) + _ ≤ _; rw [n7]; omega
    · have e5 : nT = 5 := by have := TE.2.1; omega
      refine no 1 2 rfl (by decide) (by decide) ?_ ?_
      · unfold f_E_table
        rw [if_neg c1, if_pos c3, x_gI, TE.1, if_neg (by rw [e5]; decide)]
      · unfold f_M_table
        rw [if_neg c1, if_pos c3, x_gI, TM.1, if_pos (by rw [e5]; rfl)]
  · refine no 0 1 rfl (by decide) (by decide) ?_ ?_
    · unfold f_E_table
      rw [if_neg c1, if_neg c3]
    · unfold f_M_table
      rw [if_neg c1, if_neg c3]
