/-! RUNNING (reference): trails get longer, whole -/
section
variable {w : g_St} {s p n : Nat} {X : r_Pt} {par : r_Row}
theorem m_leng (F : m_Fix w) (hpc : M_pcv w p X) (hn : g_I w 4929 1 = Int32.ofNat n) (n48 : n ≤ 48) {v : Nat → Int64} (hv : ∀ j, j < X.1 → g_AL w 789 (4 * n + j) = v j) (h1 : g_AI w 4180 n = 0) (h2 : g_AI w 4244 n = 0) (hpar : r_tr X = true → ∃ x3, f_M_parent (some 1) (Int32.ofNat s) (Int32.ofNat p) w = some (x3, w) ∧ M_pp w X n x3 par) : ∃ w', f_M_lengthen (some 1) (Int32.ofNat s) (Int32.ofNat p) w = some ((), w') ∧ z_W [] [789, 853, 917, 4180, 4244] w w' ∧ M_blw n w w' ∧ M_row w' X n (r_nrow X v par) := by
  have hpc0 := hpc
  obtain ⟨p1, p2, p3, p4, p5, p6, p7⟩ := hpc
  have f1 : g_R w 1409 1 = some 1428 ∧ g_ln w 1428 = 4 := F (1409, 1428, 4) (by decide)
  have f2 : g_R w 1601 1 = some 1620 ∧ g_ln w 1620 = 4 := F (1601, 1620, 4) (by decide)
  have f3 : g_R w 5121 1 = some 4180 ∧ g_ln w 4180 = 50 := F (5121, 4180, 50) (by decide)
  unfold f_M_lengthen
  rw [x_gR, f1.1, x_aI (by omega) (by omega)]
  by_cases t : r_tr X = true
  · obtain ⟨x3, a1, a2⟩ := hpar t
    have e20 : ∃ w', f_M_lengthen_20 (some 1) (Int32.ofNat s) (Int32.ofNat p) w = some ((), w') ∧ z_W [] [789, 853, 917, 4180, 4244] w w' ∧ M_blw n w w' ∧ M_row w' X n (r_nrow X v par) := by
      -- where the parent stands
      obtain ⟨n0, c1, c2, c3, c4⟩ : ∃ n0, (par.length ≠ 0 → n0 < n ∧ x3 = Int32.ofNat n0) ∧ par.length ≤ 29 ∧ (∀ b c, X.2.1 = some (b, c) → (if x3 = -1 then (0 : Int32) else g_AI w 4180 n0) = Int32.ofNat par.length ∧ ∀ k, k < par.length → g_AL w 853 (32 * n0 + k) = par.getD (par.length - 1 - k) r_c0 c) ∧ ∀ c, X.2.2.1 = some c → (if x3 = -1 then (0 : Int32) else g_AI w 4244 n0) = Int32.ofNat par.length ∧ ∀ k, k < par.length → g_AL w 917 (32 * n0 + k) = par.getD (par.length - 1 - k) r_c0 c := by
        rcases a2 with ⟨b1, b2⟩ | ⟨n0, b1, b2, b3, b4⟩
        · refine ⟨0, fun q => absurd (by rw [b2]; rfl) q, by rw [b2]; decide, fun b c _ => ⟨?_, fun k hk => ?_⟩, fun c _ => ⟨?_, fun k hk => ?_⟩⟩
          · rw [if_pos b1, b2]; rfl
          · rw [b2] at hk; cases hk
          · rw [if_pos b1, b2]; rfl
          · rw [b2] at hk; cases hk
        · have nx : ¬ x3 = -1 := by
            rw [b2]
            intro q
            have q2 : (Int32.ofNat n0).toInt = (-1 : Int32).toInt := by rw [q]
            rw [Int32.toInt_ofNat_of_lt (by omega)] at q2
            have q3 : (n0 : Int) = -1 := q2
            omega
          refine ⟨n0, fun _ => ⟨b1, b2⟩, b4, fun b c hX => ⟨?_, fun k hk => ?_⟩, fun c hX => ⟨?_, fun k hk => ?_⟩⟩
          · rw [if_neg nx]; exact (b3.2.2.2.2.1 b c hX).1
          · exact (b3.2.2.2.2.1 b c hX).2 k hk
          · rw [if_neg nx]; exact (b3.2.2.2.2.2.2 c hX).1
          · exact (b3.2.2.2.2.2.2 c hX).2 k hk
      -- SEARCH
      have hS : ∃ w1, (g_gR w 1409 (some 1) fun p3 => g_aI w p3 (Int32.ofNat p) fun i4 => if i4 ≤ 0 then f_M_lengthen_142 (some 1) (Int32.ofNat p) x3 w else if x3 = (-1) then f_M_lengthen_56 200000 (some 1) (Int32.ofNat p) x3 0 0 w else g_gR w 5121 (some 1) fun p5 => g_aI w p5 x3 fun i6 => f_M_lengthen_56 200000 (some 1) (Int32.ofNat p) x3 i6 0 w) = f_M_lengthen_142 (some 1) (Int32.ofNat p) x3 w1 ∧ z_W [] [853, 4180] w w1 ∧ M_blw n w w1 ∧ (X.2.1 = none → g_AI w1 4180 n = 0) ∧ ∀ b c, X.2.1 = some (b, c) → g_AI w1 4180 n = Int32.ofNat (v :: par).length ∧ ∀ k, k < (v :: par).length → g_AL w1 853 (32 * n + k) = (v :: par).getD ((v :: par).length - 1 - k) r_c0 c := by
        rw [x_gR, f1.1, x_aI (by omega) (by omega)]
        cases hX : X.2.1 with
        | none =>
          rw [p4 hX, if_pos (by decide)]
          exact ⟨w, rfl, z_W.re, M_blw.re, fun _ => h1, fun b c q => by cases q⟩
        | some bc =>
          obtain ⟨b, c⟩ := bc
          obtain ⟨y1, y2, y3⟩ := p5 b c hX
          have ns : ¬ g_AI w 1428 p ≤ 0 := by
            rw [y1]
            cases b <;> decide
          obtain ⟨d1, d2⟩ := c3 b c hX
          obtain ⟨w1, m1, m2, m3, m4, m5⟩ := m_len56 (x3 := x3) F hpc0 hn n48 hX v (hv c y3) c1 c2 d2
          have fin : ∃ w1, f_M_lengthen_56 200000 (some 1) (Int32.ofNat p) x3 (Int32.ofNat par.length) 0 w = f_M_lengthen_142 (some 1) (Int32.ofNat p) x3 w1 ∧ z_W [] [853, 4180] w w1 ∧ M_blw n w w1 ∧ (some (b, c) = none → g_AI w1 4180 n = 0) ∧ ∀ b' c', some (b, c) = some (b', c') → g_AI w1 4180 n = Int32.ofNat (v :: par).length ∧ ∀ k, k < (v :: par).length → g_AL w1 853 (32 * n + k) = (v :: par).getD ((v :: par).length - 1 - k) r_c0 c' := ⟨w1, m1, m2, m3, fun q => (by cases q), fun b' c' q => by cases q; exact ⟨m4, m5⟩⟩
          rw [if_neg ns]
          by_cases q : x3 = -1
          · rw [if_pos q] at d1
            rw [if_pos q, d1]
            rw [← d1] at fin ⊢
            exact fin
          · rw [if_neg q] at d1
            rw [if_neg q, x_gR, f3.1]
            rcases a2 with ⟨b1, -⟩ | ⟨n1, b1, b2, b3, -⟩
            · exact absurd b1 q
            · have y := (b3.2.2.2.2.1 b c hX).1
              rw [b2, x_aI (by omega) (by omega), y, ← b2]
              exact fin
      obtain ⟨w1, s1, s2, s3, s4, s5⟩ := hS
      unfold f_M_lengthen_20
      rw [x_nn, a1, x_c, s1]
      -- CYCLE
      have F1 := s2.fx F
      have g2 : g_R w1 1601 1 = some 1620 ∧ g_ln w1 1620 = 4 := F1 (1601, 1620, 4) (by decide)
      have g3 : g_R w1 5249 1 = some 4244 ∧ g_ln w1 4244 = 50 := F1 (5249, 4244, 50) (by decide)
      have g4 : g_R w1 5057 1 = some 789 ∧ g_ln w1 789 = 200 := F1 (5057, 789, 200) (by decide)
      have g5 : g_R w1 1793 1 = some 1812 ∧ g_ln w1 1812 = 4 := F1 (1793, 1812, 4) (by decide)
      have hn1 : g_I w1 4929 1 = Int32.ofNat n := by rw [s2.fi (by decide)]; exact hn
      have rw1 : r_nrow X v par = (fun j => if j = 3 then r_mk X v par else v j) :: par := by unfold r_nrow; rw [if_pos t]
      have col : ∀ c, c < X.1 → ∀ m, ((fun j => if j = 3 then r_mk X v par else v j) :: par).getD m r_c0 c = (v :: par).getD m r_c0 c := fun c hc m => by
        cases m with
        | zero =>
          show (if c = 3 then r_mk X v par else v c) = v c
          rw [if_neg (by omega)]
        | succ m => rw [List.getD_cons_succ, List.getD_cons_succ]
      unfold f_M_lengthen_142
      rw [x_gR, g2.1, x_aI (by omega) (by omega), s2.ai (a := 1620) (by decide), rw1]
      cases hX : X.2.2.1 with
      | none =>
        rw [p6 hX, if_pos rfl]
        refine ⟨w1, rfl, s2.mono (by decide) (by decide), s3, ?_⟩
        refine ⟨fun j hj => ?_, fun q => (by rw [hX] at q; cases q), ⟨by show 1 ≤ par.length + 1; omega, by show par.length + 1 ≤ 30; omega⟩, s4, fun b c q => ?_, fun _ => ?_, fun c q => by rw [hX] at q; cases q⟩
        · rw [s2.al (a := 789) (by decide), hv j hj]
          show v j = if j = 3 then _ else v j
          rw [if_neg (by omega)]
        · obtain ⟨t1, t2⟩ := s5 b c q
          exact ⟨t1, fun k hk => by rw [t2 k hk, ← col c (p5 b c q).2.2]; rfl⟩
        · rw [s2.ai (a := 4244) (by decide)]; exact h2
      | some c =>
        obtain ⟨y1, y2, y3⟩ := p7 c hX
        obtain ⟨d1, d2⟩ := c4 c hX
        have v1 : g_AL w1 789 (4 * n + c) = v c := by rw [s2.al (a := 789) (by decide)]; exact hv c y3
        obtain ⟨w2, m1, m2, m3, m4, m5, m6, m7⟩ := m_len196 (x3 := x3) F1 (hpc0.mv (s2.mono (by decide) (by decide))) hn1 n48 hX v c1 c2 (fun k hk => by rw [s2.al (a := 917) (by decide)]; exact d2 k hk)
        have e168 : f_M_lengthen_168 (some 1) (Int32.ofNat p) x3 (Int32.ofNat par.length) w1 = some ((), w2) := by
          unfold f_M_lengthen_168
          rw [x_gR, g4.1, x_gI, hn1, x_gR, g5.1, x_aI (by omega) (by omega), s2.ai (a := 1812) (by decide), y2, show (4 : Int32) = Int32.ofNat 4 from rfl, x_mul, x_add, x_aL (by omega) (by omega), v1]
          exact m1
        have W2 : z_W [] [789, 853, 917, 4180, 4244] w w2 := (s2.mono (by decide) (by decide)).trans (m2.mono (by decide) (by decide))
        have res : M_row w2 X n ((fun j => if j = 3 then r_mk X v par else v j) :: par) := by
          refine ⟨fun j hj => ?_, fun _ => m6, ⟨by show 1 ≤ par.length + 1; omega, by show par.length + 1 ≤ 30; omega⟩, fun q => ?_, fun b c' q => ?_, fun q => (by rw [hX] at q; cases q), fun c' q => ?_⟩
          · rw [m7 _ (by omega), s2.al (a := 789) (by decide), hv j hj]
            show v j = if j = 3 then _ else v j
            rw [if_neg (by omega)]
          · rw [m2.ai (a := 4180) (by decide)]; exact s4 q
          · obtain ⟨t1, t2⟩ := s5 b c' q
            refine ⟨by rw [m2.ai (a := 4180) (by decide)]; exact t1, fun k hk => ?_⟩
            rw [m2.al (a := 853) (by decide), t2 k hk, ← col c' (p5 b c' q).2.2]; rfl
          · rw [hX] at q
            cases q
            exact ⟨m4, fun k hk => by rw [m5 k hk, ← col c y3]; rfl⟩
        rw [if_neg y1]
        by_cases q : x3 = -1
        · rw [if_pos q] at d1
          rw [if_pos q, d1, e168]
          exact ⟨w2, rfl, W2, s3.trans m3, res⟩
        · rw [if_neg q] at d1
          rw [if_neg q, x_gR, g3.1]
          rcases a2 with ⟨b1, -⟩ | ⟨n1, b1, b2, b3, -⟩
          · exact absurd b1 q
          · have y := (b3.2.2.2.2.2.2 c hX).1
            have e : f_M_lengthen_168 (some 1) (Int32.ofNat p) (Int32.ofNat n1) (Int32.ofNat par.length) w1 = some ((), w2) := by rw [← b2]; exact e168
            rw [b2, x_aI (by omega) (by omega), s2.ai (a := 4244) (by decide), y, e]
            exact ⟨w2, rfl, W2, s3.trans m3, res⟩
    cases hX : X.2.1 with
    | none =>
      rw [p4 hX, if_pos rfl, x_gR, f2.1, x_aI (by omega) (by omega), if_neg (by
        cases hY : X.2.2.1 with
        | none =>
          unfold r_tr at t
          rw [hX, hY] at t
          cases t
        | some c => exact (p7 c hY).1)]
      exact e20
    | some bc =>
      obtain ⟨b, c⟩ := bc
      rw [if_neg (by
        rw [(p5 b c hX).1]
        cases b <;> decide)]
      exact e20
  · have tf : X.2.1 = none ∧ X.2.2.1 = none := by
      unfold r_tr at t
      cases h1 : X.2.1 with
      | none =>
        cases h2 : X.2.2.1 with
        | none => exact ⟨rfl, rfl⟩
        | some c => rw [h1, h2] at t; exact absurd rfl t
      | some c => rw [h1] at t; exact absurd rfl t
    rw [p4 tf.1, if_pos rfl, x_gR, f2.1, x_aI (by omega) (by omega), p6 tf.2, if_pos rfl]
    have er : r_nrow X v par = [v] := by unfold r_nrow; rw [if_neg t]
    rw [er]
    exact ⟨w, rfl, z_W.re, M_blw.re, hv, fun q => (by rw [tf.2] at q; cases q), ⟨Nat.le_refl _, (by show 1 ≤ 30; decide)⟩, fun _ => h1, fun b c q => (by rw [tf.1] at q; cases q), fun _ => h2, fun c q => by rw [tf.2] at q; cases q⟩
end
