/-! RUNNING (engine): a row comes to the answer, whole -/
theorem z_AR_app {l : List r_An} {b : r_An} {i : Nat} (h : i < l.length) : (l ++ [b]).getD i r_an0 = l.getD i r_an0 := by rw [z_getD_app, if_pos h]
theorem y_comeA {w : g_St} {S wd : Nat} (h1 : g_R w 772 4 = some S) (hS : S % 64 = 8) (h2 : g_I w 264 S = Int32.ofNat wd) (w4 : wd ≤ 4) (h3 : g_R w 836 4 = none) (F : X_fx w 4) (h4 : g_R w 900 4 = some 261) (h5 : g_R w 260 4 = some 149) (h6 : g_ln w 149 = 4) (hK : g_R w 196 4 = some 85) (lK : g_ln w 85 = 98) {vals : Nat → Int64} (hv : ∀ j, j < wd → g_AL w 149 j = vals j) {so : Nat → Option Nat} {ks : List (Nat × Nat)} (hO : X_or w so ks) {al : Nat} {pr : Nat → List r_Row} {pp : Nat → Nat} {a : List r_An × Nat × Bool} (H : X_aa w wd ks pr pp al a) {ch : Nat → r_Row} {D : Nat → Nat → Prop} (hD : ∀ k, k < ks.length → (ks.getD k (0, 0)).2 ≠ 4 → D (ks.getD k (0, 0)).1 (ks.getD k (0, 0)).2) (hb : ∀ k j, D k j → X_bd w so (fun s => r_hd (ch s)) k (D k)) (hns : ∀ k r rel, so k = some r → g_R w 521 r = some rel → g_R w 69 rel ≠ some 533) (hT : ∀ k, k < ks.length → (ks.getD k (0, 0)).2 = 4 → ∃ r i, so (ks.getD k (0, 0)).1 = some r ∧ g_I w 713 r = Int32.ofNat i ∧ i < (pr (pp k)).length ∧ (pr (pp k)).length ≤ 48 ∧ (pr (pp k)).getD i [] = ch (ks.getD k (0, 0)).1) : ∃ w', f_Ru_come (some 4) w = some ((), w') ∧ X_fm 4 a.1.length w w' ∧ X_aa w' wd ks pr pp al (r_putA al a (vals, ks.map (r_key ch))) := by
  obtain ⟨⟨a1, l48, a2, a3⟩, a4, a5, a6, a7, a8, a9⟩ := H
  obtain ⟨f1, f2, f3, f4, f5, f6⟩ := F
  unfold f_Ru_come
  rw [x_gR, h4, x_gI, a1, show (4 : Int32) = Int32.ofNat 4 from rfl, x_mul]
  refine z_cl wd (fun f i s => f_Ru_come_12 f (some 4) (Int32.ofNat (a.1.length * 4)) (Int32.ofNat i) s) (fun s => some ((), s)) (fun i s => X_fm 4 a.1.length w s ∧ g_I s = g_I w ∧ (∀ j, j < i → g_AL s 533 (a.1.length * 4 + j) = vals j) ∧ ∀ i, g_AL s 85 i = g_AL w 85 i) (fun w' => X_fm 4 a.1.length w w' ∧ X_aa w' wd ks pr pp al (r_putA al a (vals, ks.map (r_key ch)))) ?_ ?_ wd 0 w 200000 (by omega) (by omega) ⟨X_fm.re, rfl, fun j hj => by omega, fun _ => rfl⟩
  · rintro f s ⟨M, hI, hV, h85⟩
    have R4 : ∀ k c, g_R s k c = g_R w k c := fun k c => by rw [M.1.2.2.2.1]
    have N4 : ∀ c, g_ln s c = g_ln w c := fun c => by rw [M.1.2.2.2.2.2.2]
    obtain ⟨w1, k1, k2, ⟨B1, B2, B3, B4, B5, B6, B7, B8, B9⟩, k4⟩ := y_keys (hO.ag M.ag (R4 _ _)) (by rw [R4]; exact hK) (by rw [N4]; exact lK) (by rw [R4]; exact h4) (n := a.1.length) l48 (by rw [hI]; exact a1) (ch := ch) hD (fun k j hk => by
        obtain ⟨r', rel, cl, x, b1, b2, b3, b4, b5, b6, b7⟩ := hb k j hk
        refine ⟨r', rel, cl, x, b1, by rw [R4]; exact b2, by rw [R4]; exact b3, by rw [hI]; exact b4, b5, by rw [N4]; exact b6, fun j' hj' => ?_⟩
        rw [M.2.2.1 cl _ (fun q => by
          have e : cl = 533 := q.1
          rw [e] at b3
          exact hns k r' rel b1 b2 b3) (by omega)]
        exact b7 j' hj') (pr := pr) (pp := pp) (fun k hk e => by
        obtain ⟨r, i, t1, t2, t3⟩ := hT k hk e
        exact ⟨r, i, t1, by rw [hI]; exact t2, t3⟩)
    have M1 : X_fm 4 a.1.length w w1 := by
      obtain ⟨⟨m1, m2, m3, m4, m5, m6, m7⟩, m8, m9, m10⟩ := M
      exact ⟨⟨B1.trans m1, B2.trans m2, B3.trans m3, B4.trans m4, B5.trans m5, B6.trans m6, B7.trans m7⟩, fun k c x y => by rw [B8]; exact m8 k c x y, fun c i x y => by rw [k2 c i (fun q => y q.1)]; exact m9 c i x y, fun c i x => by rw [B9]; exact m10 c i x⟩
    have I1 : ∀ k c, g_I w1 k c = g_I w k c := fun k c => by rw [B8, hI]
    have cel : ∀ i j, i < a.1.length → j < wd → g_AL w1 533 (i * 4 + j) = (a.1.getD i r_an0).1 j := fun i j hi hj => by
      rw [M1.2.2.1 533 _ (fun q => by have := q.2; omega) (by decide)]; exact a2 i hi j hj
    have key : ∀ i, i < a.1.length → (a.1.getD i r_an0).2.length = ks.length ∧ ∀ k, k < ks.length → X_ky w1 pr (pp k) ((a.1.getD i r_an0).2.getD k (.inl 0)) (g_AL w1 85 (i * 2 + k)) := fun i hi => by
      obtain ⟨c1, c2⟩ := a3 i hi
      have h2' := hO
      obtain ⟨Q, O, -, -, -, ks2, -⟩ := h2'
      refine ⟨c1, fun k hk => ?_⟩
      rw [k2 85 _ (fun q => by have := q.2; omega), h85]
      exact c2 k hk
    show ∃ u', f_Ru_come_12 (f + 1) (some 4) _ (Int32.ofNat wd) s = some ((), u') ∧ _
    rw [f_Ru_come_12, x_gR, R4, h1, x_gI, hI, h2, if_pos (by rw [x_le (by omega) (by omega)]; exact Nat.le_refl _), x_gR, R4, h3, if_pos rfl, x_nn, k1, x_c]
    unfold f_Ru_come_123 r_putA
    rw [x_gI, I1, a4, x_gI, I1, a5]
    have R1 : ∀ k c, g_R w1 k c = g_R w k c := fun k c => by rw [M1.1.2.2.2.1]
    by_cases lt : a.2.1 < al
    · rw [if_pos (by rw [x_lt (by omega) (by omega)]; exact lt), x_gR, R1, h4, x_gI, I1, a1, x_pI, x_gI, x_Ia (by decide), I1, a4, x_pI, x_p1, x_p1, if_pos lt]
      refine ⟨_, rfl, (M1.pI (Or.inl ⟨rfl, rfl⟩) _).pI (Or.inr ⟨rfl, Or.inl rfl⟩) _, ⟨?_, ?_, ?_, ?_⟩, x_Iss _ _ _ _, ?_, a6, ?_, by show a.2.1 + 1 ≤ 48; omega, ?_⟩
      · rw [x_Ia (by decide), x_Iss, List.length_append, List.length_singleton]
      · rw [List.length_append, List.length_singleton]; omega
      · intro i hi j hj
        rw [List.length_append, List.length_singleton] at hi
        show g_AL w1 _ _ = _
        by_cases e : i < a.1.length
        · rw [z_AR_app e]; exact cel i j e hj
        · have ei : i = a.1.length := by omega
          rw [z_getD_app, if_neg e, if_pos ei, ei]
          show g_AL w1 533 (a.1.length * 4 + j) = vals j
          rw [k2 533 _ (fun q => by have := q.1; omega)]
          exact hV j hj
      · intro i hi
        rw [List.length_append, List.length_singleton] at hi
        by_cases e : i < a.1.length
        · rw [z_AR_app e]; exact key i e
        · have ei : i = a.1.length := by omega
          rw [z_getD_app, if_neg e, if_pos ei, ei]
          refine ⟨by show (ks.map (r_key ch)).length = _; rw [List.length_map], fun k hk => ?_⟩
          have em : (ks.map (r_key ch)).getD k (.inl 0) = r_key ch (ks.getD k (0, 0)) := by
            rw [List.getD_eq_getElem?_getD, List.getElem?_map, List.getD_eq_getElem?_getD, List.getElem?_eq_getElem hk]; rfl
          show X_ky w1 pr (pp k) ((ks.map (r_key ch)).getD k (.inl 0)) (g_AL w1 85 (a.1.length * 2 + k))
          rw [em]
          exact k4 k hk
      · rw [x_Ik (by decide), x_Ia (by decide), I1]; exact a5
      · show (a.1 ++ [_]).length ≤ a.2.1 + 1
        rw [List.length_append, List.length_singleton]; omega
      · rw [x_Ik (by decide), x_Ia (by decide), I1]; exact a9
    · rw [if_neg (by rw [x_lt (by omega) (by omega)]; exact lt), show g_pZ w1 1092 (some 4) 1 = g_pZ w1 1092 (some 4) (z_g true) from rfl, x_pZ, if_neg lt]
      exact ⟨_, rfl, M1.pI (Or.inr ⟨rfl, Or.inr rfl⟩) _, ⟨by rw [x_Ia (by decide), I1]; exact a1, l48, fun i hi j hj => cel i j hi hj, fun i hi => key i hi⟩, by rw [x_Ik (by decide), I1]; exact a4, by rw [x_Ik (by decide), I1]; exact a5, a6, a7, a8, x_Iss _ _ _ _⟩
  · rintro f i s hi ⟨M, hI, hV, h85⟩
    have R4 : ∀ k c, g_R s k c = g_R w k c := fun k c => by rw [M.1.2.2.2.1]
    have N4 : ∀ c, g_ln s c = g_ln w c := fun c => by rw [M.1.2.2.2.2.2.2]
    refine ⟨g_setAL s 533 (a.1.length * 4 + i) (vals i), ?_, M.sL (p := 4) (by omega) _, hI, fun j hj => ?_, fun j => by rw [x_AL_AL, if_neg (fun q => by have := q.1; omega)]; exact h85 j⟩
    · show f_Ru_come_12 (f + 1) (some 4) _ (Int32.ofNat i) s = f_Ru_come_12 f (some 4) _ (Int32.ofNat (i + 1)) _
      rw [f_Ru_come_12, x_gR, R4, h1, x_gI, hI, h2, if_neg (by rw [x_le (by omega) (by omega)]; omega), x_gR, R4, h4, x_gR, R4, show g_R w 69 261 = some 533 from f1, x_gR, R4, h5, x_aL (by omega) (by rw [N4]; omega), M.2.2.1 149 i (fun q => by have := q.1; omega) (by omega), hv i hi, x_add, x_sL (by omega) (by rw [N4]; show _ < g_ln w (277 + 64 * 4); omega), x_p1]
    · rw [x_AL_AL]
      by_cases e : j = i
      · rw [if_pos ⟨rfl, by rw [e]⟩, e]
      · rw [if_neg (fun q => by have := q.2; omega)]
        exact hV j (by omega)
