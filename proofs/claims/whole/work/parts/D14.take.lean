/-! RUNNING (engine): a combination is taken -/
def r_oor (v : Int64) : Bool := !decide (v = r_N) && (decide (v < -2147483648) || !decide (v ≤ 2147483647))
theorem y_oor (v : Int64) (s : g_St) : f_Ru_isOutOfRange v s = some (z_g (r_oor v), s) := by
  unfold f_Ru_isOutOfRange r_oor
  by_cases a : v = r_N
  · rw [if_pos a, decide_eq_true a]; rfl
  · rw [if_neg a, decide_eq_false a]
    by_cases b : v < -2147483648
    · rw [if_pos b, decide_eq_true b]; rfl
    · rw [if_neg b, decide_eq_false b]
      by_cases c : v ≤ 2147483647
      · rw [if_pos c, decide_eq_true c]; rfl
      · rw [if_neg c, decide_eq_false c]; rfl
/-- only the items are changed -/
def X_i9 (w w' : g_St) : Prop := (g_cnt w' = g_cnt w ∧ g_cn w' = g_cn w ∧ g_sn w' = g_sn w ∧ g_R w' = g_R w ∧ g_L w' = g_L w ∧ g_AR w' = g_AR w ∧ g_ln w' = g_ln w) ∧ g_I w' = g_I w ∧ g_AI w' = g_AI w ∧ ∀ a i, a ≠ 149 → g_AL w' a i = g_AL w a i
theorem X_i9.re {w : g_St} : X_i9 w w := ⟨⟨rfl, rfl, rfl, rfl, rfl, rfl, rfl⟩, rfl, rfl, fun _ _ _ => rfl⟩
theorem X_i9.sL {w w' : g_St} (h : X_i9 w w') (i : Nat) (x : Int64) : X_i9 w (g_setAL w' 149 i x) := ⟨h.1, h.2.1, h.2.2.1, fun a j e => by rw [x_AL_AL, if_neg (fun q => e q.1)]; exact h.2.2.2 a j e⟩
theorem X_i9.ag {w w' : g_St} (h : X_i9 w w') : E_ag w w' := ⟨fun a a1 a2 => ⟨fun k _ _ _ _ => by rw [h.2.1], fun k _ => by rw [h.1.2.2.2.1], fun k => by rw [h.1.2.2.2.2.1]⟩, fun a _ _ => ⟨by rw [h.1.2.2.2.2.2.1], by rw [h.1.2.2.2.2.2.2]⟩⟩
theorem X_i9.wf {p n0 : Nat} {w0 w w' : g_St} (h : X_i9 w w') (F : X_wf p n0 w0 w) : X_wf p n0 w0 w' := F.trans ⟨h.1, fun k a _ _ _ => by rw [h.2.1], fun a i _ _ _ q => h.2.2.2 a i q, fun a i _ _ => by rw [h.2.2.1]⟩
theorem X_bd.i9 {w w' : g_St} {so : Nat → Option Nat} {env : Nat → Nat → Int64} {k : Nat} {V : Nat → Prop} (h : X_bd w so env k V) (f : X_i9 w w') : X_bd w' so env k V := by
  obtain ⟨r, rel, cl, x, b1, b2, b3, b4, b5, b6, b7⟩ := h
  exact ⟨r, rel, cl, x, b1, by rw [f.1.2.2.2.1]; exact b2, by rw [f.1.2.2.2.1]; exact b3, by rw [f.2.1]; exact b4, b5, by rw [f.1.2.2.2.2.2.2]; exact b6, fun i hi => by rw [f.2.2.2 _ _ (by omega)]; exact b7 i hi⟩
/-- a plain item is out of range -/
def r_bad (its : List r_It) (env : Nat → Nat → Int64) : Prop := ∃ i, i < its.length ∧ (its.getD i r_it0).1 = 0 ∧ r_oor (r_val env (its.getD i r_it0).2) = true
theorem y_take {w : g_St} {S : Nat} {so : Nat → Option Nat} {its : List r_It} (rn : X_rn w S) (hit : X_it w so S its) {env : Nat → Nat → Int64} {D : Nat → Nat → Prop} (hu : r_uit D its) (hb : ∀ k j, D k j → X_bd w so env k (D k)) (rm : g_cn w + 8 ≤ 601024 ∧ g_sn w + 512 ≤ 7293034) : ∃ w', X_i9 w w' ∧ (r_bad its env → f_Ru_takeCombination (some 4) w = some (.inr 2, g_bump w' 8 512)) ∧ (¬ r_bad its env → (∀ i, i < its.length → (its.getD i r_it0).1 = 0 → g_AL w' 149 i = r_val env (its.getD i r_it0).2) ∧ f_Ru_takeCombination (some 4) w = g_gI w' 328 (some S) fun i4 => if i4 ≤ 0 then g_c (f_Ru_come (some 4) w') fun _ s6 => some (Sum.inl (), s6) else g_c (f_Ru_gather (some 4) w') fun _ s8 => some (Sum.inl (), s8)) := by
  obtain ⟨r1, r2, r3, r4, r5, r6, r7⟩ := rn
  have hit' := hit
  obtain ⟨h1, h2, h3, G, I, g1, g2, g3, g4, g5, g6, g7⟩ := hit
  have key : ∀ (d i f : Nat) (s : g_St), i + d = its.length → d < f → X_i9 w s → (∀ j, j < i → (its.getD j r_it0).1 = 0 → g_AL s 149 j = r_val env (its.getD j r_it0).2) → ∃ w', X_i9 w w' ∧ ((∃ j, i ≤ j ∧ j < its.length ∧ (its.getD j r_it0).1 = 0 ∧ r_oor (r_val env (its.getD j r_it0).2) = true) → f_Ru_takeCombination_2 f (some 4) (Int32.ofNat i) s = some (.inr 2, g_bump w' 8 512)) ∧ (¬ (∃ j, i ≤ j ∧ j < its.length ∧ (its.getD j r_it0).1 = 0 ∧ r_oor (r_val env (its.getD j r_it0).2) = true) → (∀ j, j < its.length → (its.getD j r_it0).1 = 0 → g_AL w' 149 j = r_val env (its.getD j r_it0).2) ∧ f_Ru_takeCombination_2 f (some 4) (Int32.ofNat i) s = g_gI w' 328 (some S) fun i4 => if i4 ≤ 0 then g_c (f_Ru_come (some 4) w') fun _ s6 => some (Sum.inl (), s6) else g_c (f_Ru_gather (some 4) w') fun _ s8 => some (Sum.inl (), s8)) := by
    intro d
    induction d with
    | zero =>
      intro i f s e1 e2 M hv
      obtain ⟨f, rfl⟩ : ∃ m, f = m + 1 := ⟨f - 1, by omega⟩
      refine ⟨s, M, fun ⟨j, j1, j2, _⟩ => by omega, fun _ => ⟨fun j hj => hv j (by omega), ?_⟩⟩
      rw [f_Ru_takeCombination_2, x_gR, M.1.2.2.2.1, r1, x_gI, M.2.1, h2, if_pos (by rw [x_le (by omega) (by omega)]; omega), x_gR, M.1.2.2.2.1, r1]
      rfl
    | succ d ih =>
      intro i f s e1 e2 M hv
      obtain ⟨f, rfl⟩ : ∃ m, f = m + 1 := ⟨f - 1, by omega⟩
      have R : ∀ k a, g_R s k a = g_R w k a := fun k a => by rw [M.1.2.2.2.1]
      have N : ∀ a, g_ln s a = g_ln w a := fun a => by rw [M.1.2.2.2.2.2.2]
      obtain ⟨k1, k2⟩ := g7 i (by omega)
      rw [f_Ru_takeCombination_2, x_gR, R, r1, x_gI, M.2.1, h2, if_neg (by rw [x_le (by omega) (by omega)]; omega), x_gR, R, r1, x_gR, R, g1, x_aR (by omega) (by rw [N]; omega), M.1.2.2.2.2.2.1]
      rcases k1 with ⟨c1, c2⟩ | ⟨c1, c2⟩
      · obtain ⟨ti, t1, t2⟩ := k2 (by omega)
        have v := y_val (t2.ag M.ag) (hu i (by omega) (by omega)) (fun k j hk => (hb k j hk).i9 M)
        obtain ⟨s', es'⟩ : ∃ s', s' = g_setAL s 149 i (r_val env (its.getD i r_it0).2) := ⟨_, rfl⟩
        have M' : X_i9 w s' := by rw [es']; exact M.sL _ _
        have a149 : g_AL s' 149 i = r_val env (its.getD i r_it0).2 := by rw [es', x_AL_AL, if_pos ⟨rfl, rfl⟩]
        rw [c2, if_pos rfl, x_gR, R, r2, x_gR, R, r1, x_gR, R, g4, x_aR (by omega) (by rw [N]; omega), M.1.2.2.2.2.2.1, t1, x_nn, v, x_c, x_sL (by omega) (by rw [N]; omega), ← es', x_gR, M'.1.2.2.2.1, r2, x_aL (by omega) (by rw [M'.1.2.2.2.2.2.2]; omega), a149, y_oor, x_c]
        cases ho : r_oor (r_val env (its.getD i r_it0).2) with
        | true =>
          rw [if_neg (show ¬ z_g true = 0 from by decide), x_thr (by rw [M'.1.2.1]; exact rm.1) (by rw [M'.1.2.2.1]; exact rm.2)]
          exact ⟨s', M', fun _ => rfl, fun no => absurd ⟨i, Nat.le_refl _, by omega, c1, ho⟩ no⟩
        | false =>
          rw [if_pos (show z_g false = 0 from rfl), x_p1]
          obtain ⟨w', q1, q2, q3⟩ := ih (i + 1) f s' (by omega) (by omega) M' (fun j hj hk => by
            by_cases e : j = i
            · rw [e]; exact a149
            · rw [es', x_AL_AL, if_neg (fun q => e q.2)]; exact hv j (by omega) hk)
          refine ⟨w', q1, fun ⟨j, j1, j2, j3, j4⟩ => q2 ⟨j, ?_, j2, j3, j4⟩, fun no => q3 (fun ⟨j, j1, j2⟩ => no ⟨j, by omega, j2⟩)⟩
          by_cases e : j = i
          · rw [e, ho] at j4; cases j4
          · omega
      · rw [c2, if_neg (Option.some_ne_none _), x_p1]
        obtain ⟨w', q1, q2, q3⟩ := ih (i + 1) f s (by omega) (by omega) M (fun j hj hk => by
          by_cases e : j = i
          · rw [e] at hk; omega
          · exact hv j (by omega) hk)
        refine ⟨w', q1, fun ⟨j, j1, j2, j3, j4⟩ => q2 ⟨j, ?_, j2, j3, j4⟩, fun no => q3 (fun ⟨j, j1, j2⟩ => no ⟨j, by omega, j2⟩)⟩
        by_cases e : j = i
        · rw [e] at j3; omega
        · omega
  obtain ⟨w', q1, q2, q3⟩ := key its.length 0 200000 w (by omega) (by omega) X_i9.re (fun j hj => by omega)
  exact ⟨w', q1, fun ⟨j, j1, j2⟩ => q2 ⟨j, Nat.zero_le _, j1, j2⟩, fun no => q3 (fun ⟨j, _, j1, j2⟩ => no ⟨j, j1, j2⟩)⟩
