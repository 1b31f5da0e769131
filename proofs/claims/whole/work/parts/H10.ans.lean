/-! CALLS: cell, size, rounds -/
theorem m_c37 {x1 x2 : Int32} {g : g_St} : f_M_cell_37 (some 1) x1 x2 (some 1) 1 g = some (0, g_setI g 1 1 1) := by
  unfold f_M_cell_37
  rw [x_pI, x_gI, x_Iss, if_neg (by decide)]
theorem m_s25 {x1 : Int32} {g : g_St} : f_M_size_25 (some 1) x1 (some 1) 1 g = some (0, g_setI g 1 1 1) := by
  unfold f_M_size_25
  rw [x_pI, x_gI, x_Iss, if_neg (by decide)]
theorem m_r39 {x1 x2 : Int32} {g : g_St} : f_M_rounds_39 (some 1) x1 x2 (some 1) 1 g = some (0, g_setI g 1 1 1) := by
  unfold f_M_rounds_39
  rw [x_pI, x_gI, x_Iss, if_neg (by decide)]
/-- there is no answer -/
theorem I_q.no {u g : g_St} {nT : Nat} {cols : Nat → Nat} (h : I_q u g nT cols) : (g_I u 448 0 = 0 ∧ g_I g 1089 1 = 0) ∨ ∃ (Q : Nat) (b : Nat → Nat) (n : Nat) (kd pl nw nv : Nat → Nat) (wd vl : Nat → Int64) (x : z_Qu) (tc : Nat) (cq : Nat → Nat) (lv : Nat → Nat → Nat) (so : Nat → Nat → Option Nat), g_R u 320 0 = some Q ∧ t_P n kd pl nw nv wd vl x tc cq lv ∧ Y_q u Q b nw vl x tc cq lv so ∧ g_I u 448 0 = 1 ∧ g_I g 1089 1 = 1 ∧ ∃ N pz cv tls sz, (N ≤ 48 ∧ (∀ i, i < N → pz i < N) ∧ tls.length = (z_cmp nw x tc).2) ∧ A_E u N x.2.2.1.2.1.length x.2.1.length pz cv tls sz ∧ A_M g N x.2.2.1.2.1.length (z_cmp nw x tc).2 x.2.1.length pz cv tls sz := by
  rcases h with ⟨q1, q2, q3, q4⟩ | ⟨Q, b, nn, kd, pl, nw, nv, wd, vl, x, tc, cq, lv, so, ⟨q1, q2, q3, q4⟩, H, P, Y, Mq, ia⟩
  · exact Or.inl ⟨q3, q4⟩
  · rcases ia with a | ⟨a1, a2, a3⟩
    · exact Or.inl a
    · exact Or.inr ⟨Q, b, nn, kd, pl, nw, nv, wd, vl, x, tc, cq, lv, so, q1, P, Y, a1, a2, a3⟩
theorem op_cell (x1 x2 : Int32) : z_opL 512 Inv (f_Lw_cell2 (some 0) x1 x2 (some 1237)) (f_M_cell (some 1) x1 x2) := by
  rintro n u hn ⟨g, nT, cols, cnt, cell, ca, len, T, hz, hJ⟩
  have rm := hJ.rm hn
  have th : g_thr (α := Int64) u 5 = some (.inr 5, g_bump u 8 512) := x_thr (by omega) (by omega)
  have no1 : f_E_cell (some 0) x1 x2 u = g_thr u 5 → f_M_cell (some 1) x1 x2 g = f_M_cell_37 (some 1) x1 x2 (some 1) 1 g → ∃ k b u1 u2, f_Lw_cell2 (some 0) x1 x2 (some 1237) u = some (k, u1) ∧ f_M_cell (some 1) x1 x2 u1 = some (b, u2) ∧ g_I u2 1 1 = k ∧ (k = 0 → 0 < g_ln u2 1237 ∧ g_AL u2 1237 0 = b) ∧ Inv (n + 1) u2 := fun h1 h2 => I_noL (m := f_M_cell (some 1) x1 x2) (fun a b c => l_M_cell x1 x2 a b c) (fun s o a b => w_M_cell x1 x2 s a b) (by decide) (k := 1) (by
      unfold f_Lw_cell2
      rw [x_nn, h1, th, x_cCr, if_pos rfl]) (by decide) hz (h2.trans m_c37) hJ
  have yes : ∀ i, f_E_cell (some 0) x1 x2 u = some (.inl i, u) → f_M_cell (some 1) x1 x2 g = some (i, g_setI g 1 1 0) → ∃ k b u1 u2, f_Lw_cell2 (some 0) x1 x2 (some 1237) u = some (k, u1) ∧ f_M_cell (some 1) x1 x2 u1 = some (b, u2) ∧ g_I u2 1 1 = k ∧ (k = 0 → 0 < g_ln u2 1237 ∧ g_AL u2 1237 0 = b) ∧ Inv (n + 1) u2 := fun i h1 h2 => I_okL (m := f_M_cell (some 1) x1 x2) (fun a b c => l_M_cell x1 x2 a b c) (fun s o a b => w_M_cell x1 x2 s a b) (by decide) (s := u) (by
      unfold f_Lw_cell2
      rw [x_nn, h1, x_cCl, z_sL0 hJ.1.1.2.2.2.2.2]) hz hJ.2.1.1 h2 (x_Iss _ _ _ _) (hJ.up.m1 0)
  have F := hJ.2.1.1
  have FE := hJ.1.1
  rcases hJ.2.2.2.2.2.2.no with ⟨a1, a2⟩ | ⟨Q, b, nn, kd, pl, nw, nv, wd, vl, x, tc, cq, lv, so, q1, P, Y, a1, a2, N, pz, cv, tls, sz, ⟨n48, pzl, tl⟩, AE, AM⟩
  · refine no1 ?_ ?_
    · unfold f_E_cell
      rw [x_gI, a1, if_pos rfl]
    · unfold f_M_cell
      rw [x_gI, a2, if_pos rfl]
  · obtain ⟨-, -, -, ⟨now, xs⟩, y198, -⟩ := Y
    have i264 : g_I u 264 ((b 8 + z_tot x.2.1) * 64 + 8) = Int32.ofNat x.2.2.1.2.1.length := by
      have := xs.2.1.1.2.1
      rw [this]
      show Int32.ofNat (List.map _ x.2.2.1.2.1).length = _
      rw [List.length_map]
    have w4 : x.2.2.1.2.1.length ≤ 4 := by
      have := xs.2.1.1.2.2.1
      have e : (t_sel nw vl x tc cq (lv (z_tot x.2.1)) x.2.2.1).1.length = x.2.2.1.2.1.length := List.length_map _
      omega
    obtain ⟨e1, e2, e3, e4, e5⟩ := AE
    obtain ⟨⟨m1, m2, m3, m4⟩, m5, m6, m7, m8⟩ := AM
    have r256 : g_R u 256 0 = some 4 := FE.2.2.2.1
    have r4 : g_R u 4 4 = some 93 ∧ g_ln u 93 = 5 := FE.1 (4, 4, 93, 5) (by decide)
    have r93 : g_AR u 93 4 = some 261 := FE.2.2.2.2.1 4 (by decide)
    have r69 : g_R u 69 261 = some 533 ∧ g_ln u 533 = 196 := FE.1 (69, 261, 533, 196) (by decide)
    have r132 : g_R u 132 4 = some 148 ∧ g_ln u 148 = 49 := FE.1 (132, 4, 148, 49) (by decide)
    by_cases n0 : x1 < 0
    · refine no1 ?_ ?_
      · unfold f_E_cell
        rw [x_gI, a1, if_neg (by decide), if_pos n0]
      · unfold f_M_cell
        rw [x_gI, a2, if_neg (by decide), if_pos n0]
    · have a93 : ∀ {α : Type} (Fn : Option Nat → Option α), g_aR u (some 93) 4 Fn = Fn (some 261) := fun Fn => by
        rw [show (4 : Int32) = Int32.ofNat 4 from rfl, x_aR (by decide) (by omega), r93]
      by_cases lt : x1 < Int32.ofNat N
      · obtain ⟨i, hi, ei⟩ := z_nat n0 lt (by omega)
        have nle : ¬ Int32.ofNat N ≤ Int32.ofNat i := by rw [x_le (by omega) (by omega)]; omega
        by_cases n2 : x2 < 0
        · refine no1 ?_ ?_
          · unfold f_E_cell
            rw [x_gI, a1, if_neg (by decide), if_neg n0, x_gR, r256, x_gR, r4.1, a93, x_gI, e1, ei, if_neg nle, if_pos n2]
          · unfold f_M_cell
            rw [x_gI, a2, if_neg (by decide), if_neg n0, x_gI, m4, ei, if_neg nle, if_pos n2]
        · by_cases lt2 : x2 < Int32.ofNat x.2.2.1.2.1.length
          · obtain ⟨j, hj, ej⟩ := z_nat n2 lt2 (by omega)
            have pi := pzl i hi
            refine yes (cv (pz i) j) ?_ ?_
            · unfold f_E_cell
              rw [x_gI, a1, if_neg (by decide), if_neg n0, x_gR, r256, x_gR, r4.1, a93, x_gI, e1, ei, if_neg nle, if_neg n2, x_gR, q1, x_gR, y198, x_gI, i264, if_pos lt2, x_gR, r256, x_gR, r4.1, a93, x_gR, r69.1, x_gR, r256, x_gR, r132.1, x_aI (by omega) (by omega), e3 i hi, ej, show (4 : Int32) = Int32.ofNat 4 from rfl, x_mul, x_add, x_aL (by omega) (by omega), e2 _ pi j hj]
            · have f1 : g_R g 5505 1 = some 981 ∧ g_ln g 981 = 200 := F (5505, 981, 200) (by decide)
              have f2 : g_R g 5697 1 = some 4308 ∧ g_ln g 4308 = 50 := F (5697, 4308, 50) (by decide)
              unfold f_M_cell
              rw [x_gI, a2, if_neg (by decide), if_neg n0, x_gI, m4, ei, if_neg nle, if_neg n2, x_gI, m3, if_pos lt2]
              unfold f_M_cell_37
              rw [x_pI, x_gI, x_Iss, if_pos (by decide), x_gR, show g_R (g_setI g 1 1 0) 5505 1 = some 981 from f1.1, x_gR, show g_R (g_setI g 1 1 0) 5697 1 = some 4308 from f2.1, x_aI (by omega) (by show i < g_ln g 4308; omega), show g_AI (g_setI g 1 1 0) 4308 i = Int32.ofNat (pz i) from m6 i hi, ej, show (4 : Int32) = Int32.ofNat 4 from rfl, x_mul, x_add, x_aL (by omega) (by show 4 * pz i + j < g_ln g 981; omega), show g_AL (g_setI g 1 1 0) 981 (4 * pz i + j) = cv (pz i) j from m5 _ pi j hj]
          · refine no1 ?_ ?_
            · unfold f_E_cell
              rw [x_gI, a1, if_neg (by decide), if_neg n0, x_gR, r256, x_gR, r4.1, a93, x_gI, e1, ei, if_neg nle, if_neg n2, x_gR, q1, x_gR, y198, x_gI, i264, if_neg lt2]
            · unfold f_M_cell
              rw [x_gI, a2, if_neg (by decide), if_neg n0, x_gI, m4, ei, if_neg nle, if_neg n2, x_gI, m3, if_neg lt2]
      · have le : Int32.ofNat N ≤ x1 := by
          rw [Int32.lt_iff_toInt_lt] at lt
          rw [Int32.le_iff_toInt_le]
          omega
        refine no1 ?_ ?_
        · unfold f_E_cell
          rw [x_gI, a1, if_neg (by decide), if_neg n0, x_gR, r256, x_gR, r4.1, a93, x_gI, e1, if_pos le]
        · unfold f_M_cell
          rw [x_gI, a2, if_neg (by decide), if_neg n0, x_gI, m4, if_pos le]
theorem op_size (x1 : Int32) : z_op 512 Inv (f_Lw_size (some 0) x1 (some 1237)) (f_M_size (some 1) x1) := by
  rintro n u hn ⟨g, nT, cols, cnt, cell, ca, len, T, hz, hJ⟩
  have rm := hJ.rm hn
  have th : g_thr (α := Int32) u 5 = some (.inr 5, g_bump u 8 512) := x_thr (by omega) (by omega)
  have no1 : f_E_size (some 0) x1 u = g_thr u 5 → f_M_size (some 1) x1 g = f_M_size_25 (some 1) x1 (some 1) 1 g → ∃ k b u1 u2, f_Lw_size (some 0) x1 (some 1237) u = some (k, u1) ∧ f_M_size (some 1) x1 u1 = some (b, u2) ∧ g_I u2 1 1 = k ∧ (k = 0 → 0 < g_ln u2 1237 ∧ g_AL u2 1237 0 = b.toInt64) ∧ Inv (n + 1) u2 := fun h1 h2 => I_no (m := f_M_size (some 1) x1) (fun a b c => l_M_size x1 a b c) (fun s o a b => w_M_size x1 s a b) (by decide) (k := 1) (by
      unfold f_Lw_size
      rw [x_nn, h1, th, x_cCr, if_pos rfl]) (by decide) hz (h2.trans m_s25) hJ
  have F := hJ.2.1.1
  have FE := hJ.1.1
  rcases hJ.2.2.2.2.2.2.no with ⟨a1, a2⟩ | ⟨Q, b, nn, kd, pl, nw, nv, wd, vl, x, tc, cq, lv, so, q1, P, Y, a1, a2, N, pz, cv, tls, sz, ⟨n48, pzl, tl⟩, AE, AM⟩
  · refine no1 ?_ ?_
    · unfold f_E_size
      rw [x_gI, a1, if_pos rfl]
    · unfold f_M_size
      rw [x_gI, a2, if_pos rfl]
  · obtain ⟨⟨y1, y2, y3, y4⟩, -⟩ := Y
    obtain ⟨e1, e2, e3, e4, e5⟩ := AE
    obtain ⟨⟨m1, m2, m3, m4⟩, m5, m6, m7, m8⟩ := AM
    have r256 : g_R u 256 0 = some 4 := FE.2.2.2.1
    have r4 : g_R u 4 4 = some 93 ∧ g_ln u 93 = 5 := FE.1 (4, 4, 93, 5) (by decide)
    by_cases n0 : x1 < 0
    · refine no1 ?_ ?_
      · unfold f_E_size
        rw [x_gI, a1, if_neg (by decide), if_pos n0]
      · unfold f_M_size
        rw [x_gI, a2, if_neg (by decide), if_pos n0]
    · by_cases lt : x1 < Int32.ofNat x.2.1.length
      · obtain ⟨i, hi, ei⟩ := z_nat n0 lt (by omega)
        have f1 : g_R g 5953 1 = some 4500 ∧ g_ln g 4500 = 4 := F (5953, 4500, 4) (by decide)
        refine I_ok (m := f_M_size (some 1) x1) (fun a b c => l_M_size x1 a b c) (fun s o a b => w_M_size x1 s a b) (by decide) (s := u) (i := Int32.ofNat (sz i)) ?_ hz hJ.2.1.1 (g' := g_setI g 1 1 0) ?_ (x_Iss _ _ _ _) (hJ.up.m1 0)
        · have h1 : f_E_size (some 0) x1 u = some (.inl (Int32.ofNat (sz i)), u) := by
            unfold f_E_size
            rw [x_gI, a1, if_neg (by decide), if_neg n0, x_gR, q1, x_gI, y2, if_pos lt, x_gR, r256, x_gR, r4.1, ei, x_aR (by omega) (by omega), FE.2.2.2.2.1 i (by omega), x_gI, e5 i hi]
          unfold f_Lw_size
          rw [x_nn, h1, x_cCl, z_sL0 FE.2.2.2.2.2]
        · unfold f_M_size
          rw [x_gI, a2, if_neg (by decide), if_neg n0, x_gI, m1, if_pos lt]
          unfold f_M_size_25
          rw [x_pI, x_gI, x_Iss, if_pos (by decide), x_gR, show g_R (g_setI g 1 1 0) 5953 1 = some 4500 from f1.1, ei, x_aI (by omega) (by show i < g_ln g 4500; omega), show g_AI (g_setI g 1 1 0) 4500 i = Int32.ofNat (sz i) from m8 i hi]
      · refine no1 ?_ ?_
        · unfold f_E_size
          rw [x_gI, a1, if_neg (by decide), if_neg n0, x_gR, q1, x_gI, y2, if_neg lt]
        · unfold f_M_size
          rw [x_gI, a2, if_neg (by decide), if_neg n0, x_gI, m1, if_neg lt]
theorem op_rounds (x1 x2 : Int32) : z_op 512 Inv (f_Lw_rounds (some 0) x1 x2 (some 1237)) (f_M_rounds (some 1) x1 x2) := by
  rintro n u hn ⟨g, nT, cols, cnt, cell, ca, len, T, hz, hJ⟩
  have rm := hJ.rm hn
  have th : g_thr (α := Int32) u 5 = some (.inr 5, g_bump u 8 512) := x_thr (by omega) (by omega)
  have no1 : f_E_rounds (some 0) x1 x2 u = g_thr u 5 → f_M_rounds (some 1) x1 x2 g = f_M_rounds_39 (some 1) x1 x2 (some 1) 1 g → ∃ k b u1 u2, f_Lw_rounds (some 0) x1 x2 (some 1237) u = some (k, u1) ∧ f_M_rounds (some 1) x1 x2 u1 = some (b, u2) ∧ g_I u2 1 1 = k ∧ (k = 0 → 0 < g_ln u2 1237 ∧ g_AL u2 1237 0 = b.toInt64) ∧ Inv (n + 1) u2 := fun h1 h2 => I_no (m := f_M_rounds (some 1) x1 x2) (fun a b c => l_M_rounds x1 x2 a b c) (fun s o a b => w_M_rounds x1 x2 s a b) (by decide) (k := 1) (by
      unfold f_Lw_rounds
      rw [x_nn, h1, th, x_cCr, if_pos rfl]) (by decide) hz (h2.trans m_r39) hJ
  have F := hJ.2.1.1
  have FE := hJ.1.1
  rcases hJ.2.2.2.2.2.2.no with ⟨a1, a2⟩ | ⟨Q, b, nn, kd, pl, nw, nv, wd, vl, x, tc, cq, lv, so, q1, P, Y, a1, a2, N, pz, cv, tls, sz, ⟨n48, pzl, tl⟩, AE, AM⟩
  · refine no1 ?_ ?_
    · unfold f_E_rounds
      rw [x_gI, a1, if_pos rfl]
    · unfold f_M_rounds
      rw [x_gI, a2, if_pos rfl]
  · obtain ⟨⟨y1, y2, y3, y4⟩, -⟩ := Y
    obtain ⟨e1, e2, e3, e4, e5⟩ := AE
    obtain ⟨⟨m1, m2, m3, m4⟩, m5, m6, m7, m8⟩ := AM
    have nc4 : (z_cmp nw x tc).2 ≤ 4 := by
      have := (z_cmp_cls (nw := nw) (x := x) (tc := tc) y3).2.2
      omega
    generalize (z_cmp nw x tc).2 = nc at y4 tl m2 m7 nc4
    have r256 : g_R u 256 0 = some 4 := FE.2.2.2.1
    have r68 : g_R u 68 4 = some 84 ∧ g_ln u 84 = 124 := FE.1 (68, 4, 84, 124) (by decide)
    have f1 : g_R g 5761 1 = some 4372 ∧ g_ln g 4372 = 4 := F (5761, 4372, 4) (by decide)
    have f2 : g_R g 5825 1 = some 4436 ∧ g_ln g 4436 = 128 := F (5825, 4436, 128) (by decide)
    by_cases n0 : x1 < 0
    · refine no1 ?_ ?_
      · unfold f_E_rounds
        rw [x_gI, a1, if_neg (by decide), if_pos n0]
      · unfold f_M_rounds
        rw [x_gI, a2, if_neg (by decide), if_pos n0]
    · by_cases lt : x1 < Int32.ofNat nc
      · obtain ⟨i, hi, ei⟩ := z_nat n0 lt (by omega)
        have nle : ¬ Int32.ofNat nc ≤ Int32.ofNat i := by rw [x_le (by omega) (by omega)]; omega
        obtain ⟨t1, t2, t3⟩ := e4 i (by omega)
        obtain ⟨u1, u2⟩ := m7 i hi
        by_cases n2 : x2 < 0
        · refine no1 ?_ ?_
          · unfold f_E_rounds
            rw [x_gI, a1, if_neg (by decide), if_neg n0, x_gR, q1, x_gI, y4, ei, if_neg nle, if_pos n2]
          · unfold f_M_rounds
            rw [x_gI, a2, if_neg (by decide), if_neg n0, x_gI, m2, ei, if_neg nle, if_pos n2]
        · have cE : f_E_rounds (some 0) x1 x2 u = if x2 ≤ Int32.ofNat (tls.getD i []).length then (g_aI u (some 84) (Int32.ofNat (i * 31) + x2) fun i9 => some (.inl i9, u)) else g_thr u 5 := by
            unfold f_E_rounds
            rw [x_gI, a1, if_neg (by decide), if_neg n0, x_gR, q1, x_gI, y4, ei, if_neg nle, if_neg n2, x_gR, r256, x_gR, r68.1, show (31 : Int32) = Int32.ofNat 31 from rfl, x_mul, x_aI (by omega) (by omega), t2, x_gR, r256, x_gR, r68.1]
          have cM : f_M_rounds (some 1) x1 x2 g = if x2 ≤ Int32.ofNat (tls.getD i []).length then f_M_rounds_39 (some 1) x1 x2 (some 1) 0 g else f_M_rounds_39 (some 1) x1 x2 (some 1) 1 g := by
            unfold f_M_rounds
            rw [x_gI, a2, if_neg (by decide), if_neg n0, x_gI, m2, ei, if_neg nle, if_neg n2, x_gR, f1.1, x_aI (by omega) (by omega), u2]
          by_cases lt2 : x2 ≤ Int32.ofNat (tls.getD i []).length
          · rw [if_pos lt2] at cE cM
            have lt3 : x2 < Int32.ofNat ((tls.getD i []).length + 1) := by
              rw [Int32.lt_iff_toInt_lt]
              rw [Int32.le_iff_toInt_le] at lt2
              rw [Int32.toInt_ofNat_of_lt (by omega)] at lt2 ⊢
              omega
            obtain ⟨j, hj, ej⟩ := z_nat n2 lt3 (by omega)
            have fin : ∀ z : Int32, g_AI u 84 (i * 31 + j) = z → f_M_rounds_39 (some 1) x1 x2 (some 1) 0 g = some (z, g_setI g 1 1 0) → ∃ k b u1 u2, f_Lw_rounds (some 0) x1 x2 (some 1237) u = some (k, u1) ∧ f_M_rounds (some 1) x1 x2 u1 = some (b, u2) ∧ g_I u2 1 1 = k ∧ (k = 0 → 0 < g_ln u2 1237 ∧ g_AL u2 1237 0 = b.toInt64) ∧ Inv (n + 1) u2 := fun z h1 h2 => by
              refine I_ok (m := f_M_rounds (some 1) x1 x2) (fun a b c => l_M_rounds x1 x2 a b c) (fun s o a b => w_M_rounds x1 x2 s a b) (by decide) (s := u) (i := z) ?_ hz hJ.2.1.1 (g' := g_setI g 1 1 0) (cM.trans h2) (x_Iss _ _ _ _) (hJ.up.m1 0)
              rw [ej, x_add, x_aI (by omega) (by omega), h1] at cE
              unfold f_Lw_rounds
              rw [ej, x_nn, cE, x_cCl, z_sL0 FE.2.2.2.2.2]
            by_cases j0 : j = 0
            · refine fin (Int32.ofNat (tls.getD i []).length) (by rw [j0, Nat.add_zero]; exact t2) ?_
              unfold f_M_rounds_39
              rw [x_pI, x_gI, x_Iss, if_pos (by decide), ej, j0, if_pos (show Int32.ofNat 0 = 0 from rfl), x_gR, show g_R (g_setI g 1 1 0) 5761 1 = some 4372 from f1.1, ei, x_aI (by omega) (by show i < g_ln g 4372; omega), show g_AI (g_setI g 1 1 0) 4372 i = _ from u2]
            · refine fin (Int32.ofNat ((tls.getD i []).getD (j - 1) 0)) ?_ ?_
              · have := t1 (j - 1) (by omega)
                rw [show i * 31 + (j - 1 + 1) = i * 31 + j by omega] at this
                exact this
              · unfold f_M_rounds_39
                have ex : (32 : Int32) * Int32.ofNat i + Int32.ofNat j - 1 = Int32.ofNat (32 * i + (j - 1)) := by
                  rw [show (32 : Int32) = Int32.ofNat 32 from rfl, x_mul, x_add, show (1 : Int32) = Int32.ofNat 1 from rfl, x_sub (by omega), show 32 * i + j - 1 = 32 * i + (j - 1) by omega]
                have ne : ¬ Int32.ofNat j = 0 := by
                  show ¬ Int32.ofNat j = Int32.ofNat 0
                  rw [x_eq (by omega) (by omega)]
                  exact j0
                rw [x_pI, x_gI, x_Iss, if_pos (by decide), ej, if_neg ne, x_gR, show g_R (g_setI g 1 1 0) 5825 1 = some 4436 from f2.1, ei, ex, x_aI (by omega) (by show 32 * i + (j - 1) < g_ln g 4436; omega), show g_AI (g_setI g 1 1 0) 4436 (32 * i + (j - 1)) = _ from u1 (j - 1) (by omega)]
          · rw [if_neg lt2] at cE cM
            exact no1 cE cM
      · have le : Int32.ofNat nc ≤ x1 := by
          rw [Int32.lt_iff_toInt_lt] at lt
          rw [Int32.le_iff_toInt_le]
          omega
        refine no1 ?_ ?_
        · unfold f_E_rounds
          rw [x_gI, a1, if_neg (by decide), if_neg n0, x_gR, q1, x_gI, y4, if_pos le]
        · unfold f_M_rounds
          rw [x_gI, a2, if_neg (by decide), if_neg n0, x_gI, m2, if_pos le]
