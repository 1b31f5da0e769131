/-! RUNNING (engine): a run begins -/
def X_bgn (w w' : g_St) (Q mr al : Nat) : Prop := (g_cnt w' = g_cnt w ∧ g_cn w' = g_cn w ∧ g_sn w' = g_sn w ∧ g_L w' = g_L w ∧ g_AR w' = g_AR w ∧ g_ln w' = g_ln w ∧ g_AL w' = g_AL w ∧ g_AI w' = g_AI w) ∧ (∀ k a, ¬ (a = 4 ∧ (k = 452 ∨ k = 516)) → g_R w' k a = g_R w k a) ∧ (∀ k a, ¬ (a = 0 ∧ k = 448) → ¬ (a = 4 ∧ (k = 580 ∨ k = 644 ∨ k = 708)) → ¬ (a % 64 = 5 ∧ a < 320 ∧ (k = 261 ∨ k = 325 ∨ k = 389)) → g_I w' k a = g_I w k a) ∧ (g_R w' 452 4 = some Q ∧ g_R w' 516 4 = some 29 ∧ g_I w' 580 4 = Int32.ofNat mr ∧ g_I w' 644 4 = Int32.ofNat al ∧ g_I w' 708 4 = Int32.ofNat 0 ∧ g_I w' 448 0 = z_g false) ∧ ∀ i, i < 5 → g_I w' 261 (64 * i + 5) = Int32.ofNat 0 ∧ g_I w' 325 (64 * i + 5) = Int32.ofNat 0 ∧ g_I w' 389 (64 * i + 5) = Int32.ofNat 0
theorem X_bgn.ag {w w' : g_St} {Q mr al : Nat} (h : X_bgn w w' Q mr al) : E_ag w w' := ⟨fun a a1 a2 => ⟨fun k _ _ _ _ => h.2.2.1 k a (fun q => by have := q.1; omega) (fun q => by have := q.1; omega) (fun q => by have := q.1; omega), fun k _ => h.2.1 k a (fun q => by have := q.1; omega), fun k => by rw [h.1.2.2.2.1]⟩, fun a _ _ => ⟨by rw [h.1.2.2.2.2.1], by rw [h.1.2.2.2.2.2.1]⟩⟩
theorem X_bgn.dy {w w' : g_St} {Q mr al : Nat} (h : X_bgn w w' Q mr al) {np : Nat} (hn : np ≤ 4) (Xs : Nat → r_Pt) : X_dy w' np Xs (fun _ => []) (fun _ => 0) (fun _ => 0) 0 := by
  refine ⟨fun q hq => ?_, h.2.2.2.1.2.2.2.2.1, by decide⟩
  obtain ⟨h1, h2, h3⟩ := h.2.2.2.2 q (by omega)
  exact ⟨⟨h1, Nat.zero_le _, fun i hi => (by cases hi), fun _ i hi => by cases hi⟩, h2, h3, Nat.le_refl _, Nat.le_refl _, Nat.le_refl _⟩
theorem X_bgn.ra {w w' : g_St} {Q mr al : Nat} (h : X_bgn w w' Q mr al) (F : e_Fix w) (hm : mr ≤ 30) (ha : al ≤ 48) (rm : g_cn w + 8 ≤ 601024 ∧ g_sn w + 512 ≤ 7293034) : X_ra w' al mr := by
  have R : ∀ k, k ≠ 452 → k ≠ 516 → g_R w' k 4 = g_R w k 4 := fun k h1 h2 => h.2.1 k 4 (fun q => by have := q.2; omega)
  have N : ∀ a, g_ln w' a = g_ln w a := fun a => by rw [h.1.2.2.2.2.2.1]
  refine ⟨⟨?_, ?_, ?_, ?_, ?_, ?_⟩, ⟨?_, ?_, ?_, ?_, ?_, ?_⟩, h.2.2.2.1.2.2.2.1, ha, h.2.2.2.1.2.2.1, hm, by rw [h.1.2.1]; exact rm.1, by rw [h.1.2.2.1]; exact rm.2⟩
  · rw [R _ (by decide) (by decide)]; exact (e_R F 9 rfl).1
  · rw [N]; exact (e_R F 9 rfl).2
  · rw [R _ (by decide) (by decide)]; exact (e_R F 10 rfl).1
  · rw [N]; exact (e_R F 10 rfl).2
  · rw [R _ (by decide) (by decide)]; exact (e_R F 11 rfl).1
  · rw [N]; exact (e_R F 11 rfl).2
  · rw [R _ (by decide) (by decide)]; exact (e_R F 8 rfl).1
  · rw [N]; exact (e_R F 8 rfl).2
  · rw [R _ (by decide) (by decide)]; exact (e_R F 6 rfl).1
  · rw [N]; exact (e_R F 6 rfl).2
  · rw [R _ (by decide) (by decide)]; exact (e_R F 7 rfl).1
  · rw [N]; exact (e_R F 7 rfl).2
theorem y_begin {w : g_St} {Q mr al : Nat} (F : e_Fix w) (h320 : g_R w 320 0 = some Q) (h1 : 1 ≤ mr) (h2 : mr ≤ 30) (h3 : 1 ≤ al) (h4 : al ≤ 48) : ∃ wb, f_E_run (some 0) (Int32.ofNat mr) (Int32.ofNat al) w = f_E_run_73 200000 (some 0) 0 wb ∧ X_bgn w wb Q mr al := by
  have r0 : g_R w 0 0 = some 29 := (e_R F 0 rfl).1
  have r4 := e_R F 5 rfl
  have r256 : g_R w 256 0 = some 4 := F.2.2.2.1
  have ar := F.2.2.2.2.1
  obtain ⟨s5, e5⟩ : ∃ s5, s5 = g_setI (g_setI (g_setI (g_setR (g_setR (g_setI w 448 0 (z_g false)) 452 4 (some Q)) 516 4 (some 29)) 580 4 (Int32.ofNat mr)) 644 4 (Int32.ofNat al)) 708 4 0 := ⟨_, rfl⟩
  have R5 : ∀ k a, ¬ (a = 4 ∧ (k = 452 ∨ k = 516)) → g_R s5 k a = g_R w k a := fun k a h => by
    rw [e5]
    show g_R (g_setR (g_setR (g_setI w 448 0 (z_g false)) 452 4 (some Q)) 516 4 (some 29)) k a = _
    rw [x_R_R, if_neg (fun q => h ⟨q.2, Or.inr q.1⟩), x_R_R, if_neg (fun q => h ⟨q.2, Or.inl q.1⟩)]
    rfl
  have I5 : ∀ k a, ¬ (a = 0 ∧ k = 448) → ¬ (a = 4 ∧ (k = 580 ∨ k = 644 ∨ k = 708)) → g_I s5 k a = g_I w k a := fun k a h h' => by
    rw [e5, x_I_I, if_neg (fun q => h' ⟨q.2, Or.inr (Or.inr q.1)⟩), x_I_I, if_neg (fun q => h' ⟨q.2, Or.inr (Or.inl q.1)⟩), x_I_I, if_neg (fun q => h' ⟨q.2, Or.inl q.1⟩)]
    show g_I (g_setI w 448 0 (z_g false)) k a = _
    rw [x_I_I, if_neg (fun q => h ⟨q.2, q.1⟩)]
  have facts5 : g_R s5 452 4 = some Q ∧ g_R s5 516 4 = some 29 ∧ g_I s5 580 4 = Int32.ofNat mr ∧ g_I s5 644 4 = Int32.ofNat al ∧ g_I s5 708 4 = Int32.ofNat 0 ∧ g_I s5 448 0 = z_g false := by
    rw [e5]
    refine ⟨?_, rfl, ?_, ?_, x_Iss _ _ _ _, ?_⟩
    · show g_R (g_setR (g_setR (g_setI w 448 0 (z_g false)) 452 4 (some Q)) 516 4 (some 29)) 452 4 = _
      rw [x_R_R, if_neg (by decide), x_Rss]
    · rw [x_Ik (by decide), x_Ik (by decide), x_Iss]
    · rw [x_Ik (by decide), x_Iss]
    · rw [x_Ik (by decide), x_Ik (by decide), x_Ik (by decide)]
      show g_I (g_setI w 448 0 (z_g false)) 448 0 = _
      rw [x_Iss]
  have lp := z_cl 5 (fun f i s => f_Ru_begin_29 f (some 4) (Int32.ofNat i) s) (fun s => some ((), s)) (fun i s => (g_cnt s = g_cnt s5 ∧ g_cn s = g_cn s5 ∧ g_sn s = g_sn s5 ∧ g_L s = g_L s5 ∧ g_AR s = g_AR s5 ∧ g_ln s = g_ln s5 ∧ g_AL s = g_AL s5 ∧ g_AI s = g_AI s5 ∧ g_R s = g_R s5) ∧ (∀ k a, ¬ (a % 64 = 5 ∧ a < 320 ∧ (k = 261 ∨ k = 325 ∨ k = 389)) → g_I s k a = g_I s5 k a) ∧ ∀ j, j < i → g_I s 261 (64 * j + 5) = Int32.ofNat 0 ∧ g_I s 325 (64 * j + 5) = Int32.ofNat 0 ∧ g_I s 389 (64 * j + 5) = Int32.ofNat 0) (fun s => (g_cnt s = g_cnt s5 ∧ g_cn s = g_cn s5 ∧ g_sn s = g_sn s5 ∧ g_L s = g_L s5 ∧ g_AR s = g_AR s5 ∧ g_ln s = g_ln s5 ∧ g_AL s = g_AL s5 ∧ g_AI s = g_AI s5 ∧ g_R s = g_R s5) ∧ (∀ k a, ¬ (a % 64 = 5 ∧ a < 320 ∧ (k = 261 ∨ k = 325 ∨ k = 389)) → g_I s k a = g_I s5 k a) ∧ ∀ j, j < 5 → g_I s 261 (64 * j + 5) = Int32.ofNat 0 ∧ g_I s 325 (64 * j + 5) = Int32.ofNat 0 ∧ g_I s 389 (64 * j + 5) = Int32.ofNat 0) (by
    rintro f s h
    refine ⟨s, ?_, h⟩
    show f_Ru_begin_29 (f + 1) (some 4) (Int32.ofNat 5) s = _
    rw [f_Ru_begin_29, if_pos (show (4 : Int32) < Int32.ofNat 5 from by decide)]) (by
    rintro f i s hi ⟨⟨h1, h2, h3, h4, h5, h6, h7, h8, h9⟩, hI, hz⟩
    refine ⟨g_setI (g_setI (g_setI s 261 (64 * i + 5) (Int32.ofNat 0)) 325 (64 * i + 5) (Int32.ofNat 0)) 389 (64 * i + 5) (Int32.ofNat 0), ?_, ⟨h1, h2, h3, h4, h5, h6, h7, h8, h9⟩, fun k a h => ?_, fun j hj => ?_⟩
    · show f_Ru_begin_29 (f + 1) (some 4) (Int32.ofNat i) s = f_Ru_begin_29 f (some 4) (Int32.ofNat (i + 1)) _
      rw [f_Ru_begin_29, if_neg (by rw [show (4 : Int32) = Int32.ofNat 4 from rfl, x_lt (by omega) (by omega)]; omega), x_gR, h9, R5 _ _ (by decide), show g_R w 4 4 = some 93 from r4.1, x_aR (by omega) (by rw [h6, e5]; show i < g_ln w 93; rw [show g_ln w 93 = 5 from r4.2]; exact hi), h5, show g_AR s5 93 i = some (64 * i + 5) from (by rw [e5]; exact ar i hi), x_nn]
      unfold f_Rl_empty
      rw [x_pI, x_pI, x_pI, x_c, x_p1]
      rfl
    · have kk : ∀ k', k' = 261 ∨ k' = 325 ∨ k' = 389 → ¬ (k = k' ∧ a = 64 * i + 5) := fun k' hk q => h (by have := q.1; have := q.2; omega)
      rw [x_I_I, if_neg (kk 389 (by omega)), x_I_I, if_neg (kk 325 (by omega)), x_I_I, if_neg (kk 261 (by omega))]
      exact hI k a h
    · by_cases e : j = i
      · rw [e]
        exact ⟨by rw [x_Ik (by decide), x_Ik (by decide), x_Iss], by rw [x_Ik (by decide), x_Iss], x_Iss _ _ _ _⟩
      · have ne : 64 * j + 5 ≠ 64 * i + 5 := by omega
        rw [x_Ia ne, x_Ia ne, x_Ia ne, x_Ia ne, x_Ia ne, x_Ia ne, x_Ia ne, x_Ia ne, x_Ia ne]
        exact hz j (by omega)) 5 0 s5 200000 (by omega) (by omega) ⟨⟨rfl, rfl, rfl, rfl, rfl, rfl, rfl, rfl, rfl⟩, fun _ _ _ => rfl, fun j hj => by omega⟩
  obtain ⟨wb, g1, ⟨c1, c2, c3, c4, c5, c6, c7, c8, c9⟩, hI, hz⟩ := lp
  refine ⟨wb, ?_, ⟨by rw [c1, e5]; rfl, by rw [c2, e5]; rfl, by rw [c3, e5]; rfl, by rw [c4, e5]; rfl, by rw [c5, e5]; rfl, by rw [c6, e5]; rfl, by rw [c7, e5]; rfl, by rw [c8, e5]; rfl⟩, fun k a h => by rw [c9]; exact R5 k a h, fun k a h h' h'' => by rw [hI k a h'']; exact I5 k a h h', ⟨by rw [c9]; exact facts5.1, by rw [c9]; exact facts5.2.1, by rw [hI _ _ (by decide)]; exact facts5.2.2.1, by rw [hI _ _ (by decide)]; exact facts5.2.2.2.1, by rw [hI _ _ (by decide)]; exact facts5.2.2.2.2.1, by rw [hI _ _ (by decide)]; exact facts5.2.2.2.2.2⟩, hz⟩
  unfold f_E_run
  rw [if_neg (by rw [show (1 : Int32) = Int32.ofNat 1 from rfl, x_lt (by omega) (by omega)]; omega), if_neg (by rw [show (30 : Int32) = Int32.ofNat 30 from rfl, x_lt (by omega) (by omega)]; omega), if_neg (by rw [show (1 : Int32) = Int32.ofNat 1 from rfl, x_lt (by omega) (by omega)]; omega), if_pos (by rw [show (48 : Int32) = Int32.ofNat 48 from rfl, x_le (by omega) (by omega)]; omega), x_gR, h320, if_neg (Option.some_ne_none _), show ∀ (F : g_St → Option ((Int32 ⊕ Nat) × g_St)), g_pZ w 448 (some 0) 0 F = g_pZ w 448 (some 0) (z_g false) F from fun _ => rfl, x_pZ, x_gR, show g_R (g_setI w 448 0 (z_g false)) 256 0 = some 4 from r256, x_gR, show g_R (g_setI w 448 0 (z_g false)) 320 0 = some Q from h320, x_gR, show g_R (g_setI w 448 0 (z_g false)) 0 0 = some 29 from r0, x_nn]
  unfold f_Ru_begin
  rw [x_pR, x_pR, x_pI, x_pI, x_pI, ← e5, show f_Ru_begin_29 200000 (some 4) 0 s5 = _ from g1, x_c]
