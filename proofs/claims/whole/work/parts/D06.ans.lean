/-! RUNNING (engine): a row comes to the answer -/
abbrev r_An : Type := (Nat → Int64) × List (Int64 ⊕ r_Row)
def r_an0 : r_An := (r_c0, [])
/-- what ORDER BY names: a slot and a column (4: a trail) -/
def r_key (ch : Nat → r_Row) (k : Nat × Nat) : Int64 ⊕ r_Row := if k.2 = 4 then .inr (ch k.1) else .inl (r_hd (ch k.1) k.2)
def X_or (w : g_St) (so : Nat → Option Nat) (ks : List (Nat × Nat)) : Prop := ∃ Q O, g_R w 452 4 = some Q ∧ Q % 64 = 6 ∧ g_I w 326 Q = Int32.ofNat ks.length ∧ ks.length ≤ 2 ∧ g_R w 262 Q = some O ∧ O % 64 = 26 ∧ g_ln w O = 2 ∧ ∀ k, k < ks.length → ∃ i, g_AR w O k = some (i * 64 + 11) ∧ g_I w 587 (i * 64 + 11) = Int32.ofNat (ks.getD k (0, 0)).2 ∧ (ks.getD k (0, 0)).2 ≤ 4 ∧ (∃ r, so (ks.getD k (0, 0)).1 = some r ∧ g_R w 523 (i * 64 + 11) = some r) ∧ ((ks.getD k (0, 0)).2 ≠ 4 → X_ex w so i [(false, .inr (ks.getD k (0, 0)))])
theorem X_or.ag {v w : g_St} {so : Nat → Option Nat} {ks : List (Nat × Nat)} (h : X_or v so ks) (f : E_ag v w) (h4 : g_R w 452 4 = g_R v 452 4) : X_or w so ks := by
  obtain ⟨Q, O, h1, h2, h3, h5, h6, h7, h8, h9⟩ := h
  have ar := f.2 O (by omega) (by omega)
  refine ⟨Q, O, by rw [h4]; exact h1, h2, by rw [f.I (by omega) (by omega) (by decide)]; exact h3, h5, by rw [f.R (by omega) (by omega) (by decide)]; exact h6, h7, by rw [ar.2]; exact h8, fun k hk => ?_⟩
  obtain ⟨i, a1, a2, a3, ⟨r, a4, a5⟩, a6⟩ := h9 k hk
  exact ⟨i, by rw [ar.1]; exact a1, by rw [f.I (by omega) (by omega) (by decide)]; exact a2, a3, ⟨r, a4, by rw [f.R (by omega) (by omega) (by decide)]; exact a5⟩, fun e => (a6 e).ag f⟩
theorem r_val1 (env : Nat → Nat → Int64) (k : Nat × Nat) : r_val env [(false, .inr k)] = env k.1 k.2 := by
  unfold r_val
  rw [r_go, r_go]
  show (if env k.1 k.2 = r_N then r_N else (if false = true then 0 - env k.1 k.2 else 0 + env k.1 k.2)) = _
  by_cases h : env k.1 k.2 = r_N
  · rw [if_pos h, h]
  · rw [if_neg h, if_neg (by decide), Int64.zero_add]
/-- how a key stands in the answer -/
def X_ky (w : g_St) (pr : Nat → List r_Row) (pk : Nat) (k : Int64 ⊕ r_Row) (x : Int64) : Prop := match k with
  | .inl v => x = v
  | .inr c => ∃ i, x = (Int32.ofNat i).toInt64 ∧ i < (pr pk).length ∧ (pr pk).length ≤ 48 ∧ (pr pk).getD i [] = c
/-- the rows of the answer; pp: of which part a key's trail is -/
def X_aa (w : g_St) (wd : Nat) (ks : List (Nat × Nat)) (pr : Nat → List r_Row) (pp : Nat → Nat) (al : Nat) (a : List r_An × Nat × Bool) : Prop := (g_I w 261 261 = Int32.ofNat a.1.length ∧ a.1.length ≤ 48 ∧ (∀ i, i < a.1.length → ∀ j, j < wd → g_AL w 533 (i * 4 + j) = (a.1.getD i r_an0).1 j) ∧ ∀ i, i < a.1.length → (a.1.getD i r_an0).2.length = ks.length ∧ ∀ k, k < ks.length → X_ky w pr (pp k) ((a.1.getD i r_an0).2.getD k (.inl 0)) (g_AL w 85 (i * 2 + k))) ∧ g_I w 708 4 = Int32.ofNat a.2.1 ∧ g_I w 644 4 = Int32.ofNat al ∧ al ≤ 48 ∧ a.1.length ≤ a.2.1 ∧ a.2.1 ≤ 48 ∧ g_I w 1092 4 = z_g a.2.2
def r_putA (al : Nat) (a : List r_An × Nat × Bool) (b : r_An) : List r_An × Nat × Bool := if a.2.1 < al then (a.1 ++ [b], a.2.1 + 1, a.2.2) else (a.1, a.2.1, true)
/-- the keys of the row that may come -/
theorem y_keys {w : g_St} {so : Nat → Option Nat} {ks : List (Nat × Nat)} (hO : X_or w so ks) (hK : g_R w 196 4 = some 85) (lK : g_ln w 85 = 98) (h4 : g_R w 900 4 = some 261) {n : Nat} (hn : n ≤ 48) (hc : g_I w 261 261 = Int32.ofNat n) {ch : Nat → r_Row} {D : Nat → Nat → Prop} (hD : ∀ k, k < ks.length → (ks.getD k (0, 0)).2 ≠ 4 → D (ks.getD k (0, 0)).1 (ks.getD k (0, 0)).2) (hb : ∀ k j, D k j → X_bd w so (fun s => r_hd (ch s)) k (D k)) {pr : Nat → List r_Row} {pp : Nat → Nat} (hT : ∀ k, k < ks.length → (ks.getD k (0, 0)).2 = 4 → ∃ r i, so (ks.getD k (0, 0)).1 = some r ∧ g_I w 713 r = Int32.ofNat i ∧ i < (pr (pp k)).length ∧ (pr (pp k)).length ≤ 48 ∧ (pr (pp k)).getD i [] = ch (ks.getD k (0, 0)).1) : ∃ w', f_Ru_keepKeys (some 4) w = some ((), w') ∧ (∀ a i, ¬ (a = 85 ∧ n * 2 ≤ i) → g_AL w' a i = g_AL w a i) ∧ (g_cnt w' = g_cnt w ∧ g_cn w' = g_cn w ∧ g_sn w' = g_sn w ∧ g_R w' = g_R w ∧ g_L w' = g_L w ∧ g_AR w' = g_AR w ∧ g_ln w' = g_ln w ∧ g_I w' = g_I w ∧ g_AI w' = g_AI w) ∧ ∀ k, k < ks.length → X_ky w' pr (pp k) (r_key ch (ks.getD k (0, 0))) (g_AL w' 85 (n * 2 + k)) := by
  obtain ⟨Q, O, h1, h2, h3, h5, h6, h7, h8, h9⟩ := hO
  unfold f_Ru_keepKeys
  refine z_cl ks.length (fun f k s => f_Ru_keepKeys_2 f (some 4) (Int32.ofNat k) s) (fun s => some ((), s)) (fun k s => (∀ a i, ¬ (a = 85 ∧ n * 2 ≤ i) → g_AL s a i = g_AL w a i) ∧ (g_cnt s = g_cnt w ∧ g_cn s = g_cn w ∧ g_sn s = g_sn w ∧ g_R s = g_R w ∧ g_L s = g_L w ∧ g_AR s = g_AR w ∧ g_ln s = g_ln w ∧ g_I s = g_I w ∧ g_AI s = g_AI w) ∧ ∀ k', k' < k → X_ky s pr (pp k') (r_key ch (ks.getD k' (0, 0))) (g_AL s 85 (n * 2 + k'))) (fun s => (∀ a i, ¬ (a = 85 ∧ n * 2 ≤ i) → g_AL s a i = g_AL w a i) ∧ (g_cnt s = g_cnt w ∧ g_cn s = g_cn w ∧ g_sn s = g_sn w ∧ g_R s = g_R w ∧ g_L s = g_L w ∧ g_AR s = g_AR w ∧ g_ln s = g_ln w ∧ g_I s = g_I w ∧ g_AI s = g_AI w) ∧ ∀ k, k < ks.length → X_ky s pr (pp k) (r_key ch (ks.getD k (0, 0))) (g_AL s 85 (n * 2 + k))) ?_ ?_ ks.length 0 w 200000 (by omega) (by omega) ⟨fun _ _ _ => rfl, ⟨rfl, rfl, rfl, rfl, rfl, rfl, rfl, rfl, rfl⟩, fun k hk => by omega⟩
  · rintro f s ⟨A1, ⟨B1, B2, B3, B4, B5, B6, B7, B8, B9⟩, C1⟩
    refine ⟨s, ?_, A1, ⟨B1, B2, B3, B4, B5, B6, B7, B8, B9⟩, C1⟩
    show f_Ru_keepKeys_2 (f + 1) (some 4) (Int32.ofNat ks.length) s = _
    rw [f_Ru_keepKeys_2, x_gR, B4, h1, x_gI, B8, h3, if_pos (by rw [x_le (by omega) (by omega)]; exact Nat.le_refl _)]
  · rintro f k s hk ⟨A1, ⟨B1, B2, B3, B4, B5, B6, B7, B8, B9⟩, C1⟩
    obtain ⟨i, o1, o2, o3, ⟨r, o4, o5⟩, o6⟩ := h9 k hk
    have agS : E_ag w s := ⟨fun a _ _ => ⟨fun k _ _ _ _ => by rw [B8], fun k _ => by rw [B4], fun k => by rw [B5]⟩, fun a _ _ => ⟨by rw [B6], by rw [B7]⟩⟩
    have set : ∀ x, X_ky s pr (pp k) (r_key ch (ks.getD k (0, 0))) x → (∀ a i, ¬ (a = 85 ∧ n * 2 ≤ i) → g_AL (g_setAL s 85 (n * 2 + k) x) a i = g_AL w a i) ∧ (g_cnt (g_setAL s 85 (n * 2 + k) x) = g_cnt w ∧ g_cn (g_setAL s 85 (n * 2 + k) x) = g_cn w ∧ g_sn (g_setAL s 85 (n * 2 + k) x) = g_sn w ∧ g_R (g_setAL s 85 (n * 2 + k) x) = g_R w ∧ g_L (g_setAL s 85 (n * 2 + k) x) = g_L w ∧ g_AR (g_setAL s 85 (n * 2 + k) x) = g_AR w ∧ g_ln (g_setAL s 85 (n * 2 + k) x) = g_ln w ∧ g_I (g_setAL s 85 (n * 2 + k) x) = g_I w ∧ g_AI (g_setAL s 85 (n * 2 + k) x) = g_AI w) ∧ ∀ k', k' < k + 1 → X_ky (g_setAL s 85 (n * 2 + k) x) pr (pp k') (r_key ch (ks.getD k' (0, 0))) (g_AL (g_setAL s 85 (n * 2 + k) x) 85 (n * 2 + k')) := by
      intro x hx
      refine ⟨fun a j h => by rw [x_AL_AL, if_neg (fun q => h ⟨q.1, by have := q.2; omega⟩)]; exact A1 a j h, ⟨B1, B2, B3, B4, B5, B6, B7, B8, B9⟩, fun k' hk' => ?_⟩
      rw [x_AL_AL]
      by_cases e : k' = k
      · rw [if_pos ⟨rfl, by rw [e]⟩, e]; exact hx
      · rw [if_neg (fun q => by have := q.2; omega)]; exact C1 k' (by omega)
    have st : f_Ru_keepKeys_2 (f + 1) (some 4) (Int32.ofNat k) s = if Int32.ofNat (ks.getD k (0, 0)).2 = 4 then f_Ru_keepKeys_36 (f_Ru_keepKeys_2 f) (some 4) (Int32.ofNat k) (some (i * 64 + 11)) 1 s else f_Ru_keepKeys_36 (f_Ru_keepKeys_2 f) (some 4) (Int32.ofNat k) (some (i * 64 + 11)) 0 s := by
      rw [f_Ru_keepKeys_2, x_gR, B4, h1, x_gI, B8, h3, if_neg (by rw [x_le (by omega) (by omega)]; omega), x_gR, B4, h1, x_gR, B4, h6, x_aR (by omega) (by rw [B7]; omega), B6, o1, x_gI, B8, o2]
    have e4 : (Int32.ofNat (ks.getD k (0, 0)).2 = 4) = ((ks.getD k (0, 0)).2 = 4) := x_eq (b := 4) (by omega) (by decide)
    by_cases c4 : (ks.getD k (0, 0)).2 = 4
    · obtain ⟨r', x, t1, t2, t3, t4, t5⟩ := hT k hk c4
      rw [o4] at t1
      cases t1
      refine ⟨g_setAL s 85 (n * 2 + k) (Int32.ofNat x).toInt64, ?_, set _ (by unfold r_key; rw [if_pos c4]; exact ⟨x, rfl, t3, t4, t5⟩)⟩
      show f_Ru_keepKeys_2 (f + 1) (some 4) (Int32.ofNat k) s = f_Ru_keepKeys_2 f (some 4) (Int32.ofNat (k + 1)) _
      rw [st, if_pos (by rw [e4]; exact c4)]
      unfold f_Ru_keepKeys_36
      rw [x_gR, B4, hK, x_gR, B4, h4, x_gI, B8, hc, if_neg (by decide), x_gR, B4, o5, x_gI, B8, t2, show (2 : Int32) = Int32.ofNat 2 from rfl, x_mul, x_add, x_sL (by omega) (by rw [B7]; omega), x_p1]
    · have v := y_val ((o6 c4).ag agS) (env := fun s => r_hd (ch s)) (D := D) (fun o ho k' j' e => by
        rw [List.mem_singleton] at ho
        rw [ho] at e
        have e' := Sum.inr.inj e
        have := hD k hk c4
        rw [show ks.getD k (0, 0) = (k', j') from e'] at this
        exact this) (fun k' j' hk' => by
          obtain ⟨r', rel, cl, x, b1, b2, b3, b4, b5, b6, b7⟩ := hb k' j' hk'
          exact ⟨r', rel, cl, x, b1, by rw [B4]; exact b2, by rw [B4]; exact b3, by rw [B8]; exact b4, b5, by rw [B7]; exact b6, fun j hj => by rw [A1 cl _ (fun q => by have := q.1; omega)]; exact b7 j hj⟩)
      rw [r_val1] at v
      refine ⟨g_setAL s 85 (n * 2 + k) (r_hd (ch (ks.getD k (0, 0)).1) (ks.getD k (0, 0)).2), ?_, set _ (by unfold r_key; rw [if_neg c4]; rfl)⟩
      show f_Ru_keepKeys_2 (f + 1) (some 4) (Int32.ofNat k) s = f_Ru_keepKeys_2 f (some 4) (Int32.ofNat (k + 1)) _
      rw [st, if_neg (by rw [e4]; exact c4)]
      unfold f_Ru_keepKeys_36
      rw [x_gR, B4, hK, x_gR, B4, h4, x_gI, B8, hc, if_pos rfl, x_nn, v, x_c, show (2 : Int32) = Int32.ofNat 2 from rfl, x_mul, x_add, x_sL (by omega) (by rw [B7]; omega), x_p1]
