/-! CALLS: part -/
theorem t_qst {g : g_St} {nT : Nat} {cols cnt : Nat → Nat} {cell : Nat → Nat → Nat → Int64} {n : Nat} {kd pl nw nv : Nat → Nat} {wd vl : Nat → Int64} {x : z_Qu} {tc : Nat} {cq : Nat → Nat} {lv : Nat → Nat → Nat} (F : m_Fix g) (TM : z_TM g nT (fun t => Int32.ofNat (cols t)) cnt cell) (hc : ∀ t, t < nT → 1 ≤ cols t ∧ cols t ≤ 3) (htc : tc ≤ nT) (H : z_H n kd) (P : t_P n kd pl nw nv wd vl x tc cq lv) (Mq : M_q g n kd pl nw vl x tc cq) : M_stc g x.2.1.length tc (t_Xs nw x) cq (t_cp nw x tc) (t_ns x) (t_fs x) (t_ua x) (t_rec nw x tc) (t_nms nw vl x tc cq) (t_sl nw vl x tc cq lv) ∧ (M_osl g x.2.1.length tc (t_Xs nw x) cq (z_tot x.2.1) (t_sel nw vl x tc cq (lv (z_tot x.2.1)) x.2.2.1).1 (t_sel nw vl x tc cq (lv (z_tot x.2.1)) x.2.2.1).2.1 (t_sel nw vl x tc cq (lv (z_tot x.2.1)) x.2.2.1).2.2.1 (t_ks nw x tc cq) ∧ g_AI g 159 (z_tot x.2.1) = z_g (!decide (r_gc (t_sel nw vl x tc cq (lv (z_tot x.2.1)) x.2.2.1).1 = 0)) ∧ g_I g 2177 1 = Int32.ofNat (z_tot x.2.1 + 1) ∧ r_kok (t_Xs nw x) cq (t_sel nw vl x tc cq (lv (z_tot x.2.1)) x.2.2.1).2.1 (t_ks nw x tc cq) (t_pp nw x tc cq) ∧ (r_gc (t_sel nw vl x tc cq (lv (z_tot x.2.1)) x.2.2.1).1 ≠ 0 → t_ks nw x tc cq = []) ∧ ∀ k, k < (t_ks nw x tc cq).length → ((t_ks nw x tc cq).getD k (0, 0)).2 = 4 → t_pp nw x tc cq k < x.2.1.length ∧ (t_Xs nw x (t_pp nw x tc cq k)).2.1.isSome = true) ∧ g_I g 4865 1 = Int32.ofNat (z_cmp nw x tc).2 := by
  obtain ⟨C, m1, m2, m3, m4⟩ := Mq
  have K : M_ck n kd pl vl g C x nT cols := ⟨F, m1, m2, TM.1, TM.2.1, fun t ht => ⟨(TM.2.2 t ht).1, (hc t ht).2⟩⟩
  obtain ⟨NM, N, ⟨q, W, hq⟩, q4, hw, hcl, h3, lvok, o1⟩ := P
  have t5 := TM.2.1
  exact ⟨t_stc (by omega) N K m3 m4 H W hq (t_fl W) lv, t_osl hcl N K m3 H W hq (lv (z_tot x.2.1)), m4.2.2.2.1⟩
theorem m_p38 {x1 x2 c : Int32} {g : g_St} (hc : ¬ c ≤ 0) : f_M_part_38 (some 1) x1 x2 (some 1) c g = some (0, g_setI g 1 1 c) := by
  unfold f_M_part_38
  rw [x_pI, x_gI, x_Iss, if_neg hc]
theorem op_part (x1 x2 : Int32) : z_op 512 Inv (f_Lw_part (some 0) x1 x2 (some 1237)) (f_M_part (some 1) x1 x2) := by
  rintro n u hn ⟨g, nT, cols, cnt, cell, ca, len, T, hz, hJ⟩
  have rm := hJ.rm hn
  have th : ∀ e, g_thr (α := Int32) u e = some (.inr e, g_bump u 8 512) := fun e => x_thr (by omega) (by omega)
  have cN : f_E_part (some 0) x1 x2 u = some (.inr 4, g_bump u 8 512) → f_Lw_part (some 0) x1 x2 (some 1237) u = some (1, g_bump u 8 512) := fun h => by
    unfold f_Lw_part
    rw [x_nn, h, x_cCr, if_pos rfl]
  have cA : f_E_part (some 0) x1 x2 u = some (.inr 0, g_bump u 8 512) → f_Lw_part (some 0) x1 x2 (some 1237) u = some (2, g_bump u 8 512) := fun h => by
    unfold f_Lw_part
    rw [x_nn, h, x_cCr, if_neg (by decide), if_pos rfl]
  have cV : ∀ i, f_E_part (some 0) x1 x2 u = some (.inl i, u) → f_Lw_part (some 0) x1 x2 (some 1237) u = some (0, g_setAL u 1237 0 i.toInt64) := fun i h => by
    unfold f_Lw_part
    rw [x_nn, h, x_cCl, z_sL0 hJ.1.1.2.2.2.2.2]
  have no1 : f_E_part (some 0) x1 x2 u = some (.inr 4, g_bump u 8 512) → f_M_part (some 1) x1 x2 g = f_M_part_38 (some 1) x1 x2 (some 1) 1 g → ∃ k b u1 u2, f_Lw_part (some 0) x1 x2 (some 1237) u = some (k, u1) ∧ f_M_part (some 1) x1 x2 u1 = some (b, u2) ∧ g_I u2 1 1 = k ∧ (k = 0 → 0 < g_ln u2 1237 ∧ g_AL u2 1237 0 = b.toInt64) ∧ Inv (n + 1) u2 := fun h1 h2 => I_no (m := f_M_part (some 1) x1 x2) (fun a b c => l_M_part x1 x2 a b c) (fun s o a b => w_M_part x1 x2 s a b) (by decide) (cN h1) (by decide) hz (h2.trans (m_p38 (by decide))) hJ
  have no2 : f_E_part (some 0) x1 x2 u = some (.inr 0, g_bump u 8 512) → f_M_part (some 1) x1 x2 g = f_M_part_38 (some 1) x1 x2 (some 1) 2 g → ∃ k b u1 u2, f_Lw_part (some 0) x1 x2 (some 1237) u = some (k, u1) ∧ f_M_part (some 1) x1 x2 u1 = some (b, u2) ∧ g_I u2 1 1 = k ∧ (k = 0 → 0 < g_ln u2 1237 ∧ g_AL u2 1237 0 = b.toInt64) ∧ Inv (n + 1) u2 := fun h1 h2 => I_no (m := f_M_part (some 1) x1 x2) (fun a b c => l_M_part x1 x2 a b c) (fun s o a b => w_M_part x1 x2 s a b) (by decide) (cA h1) (by decide) hz (h2.trans (m_p38 (by decide))) hJ
  have yes : ∀ i, f_E_part (some 0) x1 x2 u = some (.inl i, u) → f_M_part (some 1) x1 x2 g = some (i, g_setI g 1 1 0) → ∃ k b u1 u2, f_Lw_part (some 0) x1 x2 (some 1237) u = some (k, u1) ∧ f_M_part (some 1) x1 x2 u1 = some (b, u2) ∧ g_I u2 1 1 = k ∧ (k = 0 → 0 < g_ln u2 1237 ∧ g_AL u2 1237 0 = b.toInt64) ∧ Inv (n + 1) u2 := fun i h1 h2 => I_ok (m := f_M_part (some 1) x1 x2) (fun a b c => l_M_part x1 x2 a b c) (fun s o a b => w_M_part x1 x2 s a b) (by decide) (cV i h1) hz hJ.2.1.1 h2 (x_Iss _ _ _ _) (hJ.up.m1 0)
  obtain ⟨E, ⟨F, KW⟩, ⟨TE, TM, tc1, tc2⟩, X, fl, room, iq⟩ := hJ
  rcases iq with ⟨q1, q2, q3, q4⟩ | ⟨Q, b, nn, kd, pl, nw, nv, wd, vl, x, tc, cq, lv, so, ⟨q1, q2, q3, q4⟩, H, P, Y, Mq, ia⟩
  · refine no1 ?_ ?_
    · unfold f_E_part
      rw [x_gR, q1, if_pos rfl]; exact th 4
    · unfold f_M_part
      rw [x_gI, q2, if_pos rfl]
  · obtain ⟨⟨y1, y2, y3, y4⟩, ⟨PA, p1, p2, p3, p4⟩, -⟩ := Y
    obtain ⟨St, -, -⟩ := t_qst F TM tc1 q3 H P Mq
    have g1153 : g_I g 1153 1 = Int32.ofNat x.2.1.length := St.1
    by_cases n0 : x1 < 0
    · refine no1 ?_ ?_
      · unfold f_E_part
        rw [x_gR, q1, if_neg (Option.some_ne_none _), if_pos n0]; exact th 4
      · unfold f_M_part
        rw [x_gI, q2, if_neg (by decide), if_pos n0]
    · by_cases lt : x1 < Int32.ofNat x.2.1.length
      · obtain ⟨q, hq, e1⟩ := z_nat n0 lt (by omega)
        obtain ⟨d1, d2, d3, d4, d5, d6⟩ := p4 q hq
        obtain ⟨⟨s1, s2, s3, -⟩, -, ⟨r, r1, r2, r3⟩, -⟩ := St.2.2 q hq
        have q4' : q < 4 := s1.1
        have cl : f_E_part (some 0) x1 x2 u = if x2 = 0 then some (.inl (Int32.ofNat (t_cp nw x tc q)), u) else if x2 = 1 then (if z_g (t_rec nw x tc q) = 0 then some (.inl 0, u) else some (.inl 1, u)) else if x2 = 2 then (if z_g (t_Xs nw x q).2.2.1.isSome = 0 then some (.inl (Int32.ofNat (t_Xs nw x q).1), u) else some (.inl (Int32.ofNat (t_Xs nw x q).1 + 1), u)) else g_thr u 0 := by
          obtain ⟨X1, X2, X3, X4, X5, X6, X7, X8, X9⟩ := d2
          unfold f_E_part
          rw [x_gR, q1, if_neg (Option.some_ne_none _), if_neg n0, x_gR, q1, x_gI, y2, if_pos lt, x_gR, q1, x_gR, p1, e1, x_aR (by omega) (by omega), d1, x_gI, d3, x_gI, d6, x_gI, X5, x_gI, X3, x_gI, X3]
        have ml : f_M_part (some 1) x1 x2 g = if x2 < 0 then f_M_part_38 (some 1) x1 x2 (some 1) 2 g else if x2 ≤ 2 then f_M_part_38 (some 1) x1 x2 (some 1) 0 g else f_M_part_38 (some 1) x1 x2 (some 1) 2 g := by
          unfold f_M_part
          rw [x_gI, q2, if_neg (by decide), if_neg n0, x_gI, g1153, if_pos lt]
        have f1 : g_R g 4801 1 = some 4052 ∧ g_ln g 4052 = 4 := F (4801, 4052, 4) (by decide)
        have f2 : g_R g 1281 1 = some 1300 ∧ g_ln g 1300 = 4 := F (1281, 1300, 4) (by decide)
        have f3 : g_R g 1601 1 = some 1620 ∧ g_ln g 1620 = 4 := F (1601, 1620, 4) (by decide)
        have R0 : ∀ k, g_R (g_setI g 1 1 0) k 1 = g_R g k 1 := fun _ => rfl
        have L0 : ∀ a, g_ln (g_setI g 1 1 0) a = g_ln g a := fun _ => rfl
        have A0 : ∀ a i, g_AI (g_setI g 1 1 0) a i = g_AI g a i := fun _ _ => rfl
        by_cases e0 : x2 = 0
        · rw [if_pos e0] at cl
          refine yes _ cl ?_
          rw [ml, e0, if_neg (by decide), if_pos (by decide)]
          unfold f_M_part_38
          rw [x_pI, x_gI, x_Iss, if_pos (by decide), if_pos rfl, x_gR, R0, f1.1, e1, x_aI (by omega) (by rw [L0]; omega), A0, s2]
        · rw [if_neg e0] at cl
          by_cases e11 : x2 = 1
          · rw [if_pos e11] at cl
            have ir := m_isr (w := g_setI g 1 1 0) F q4' (by rw [A0]; exact r1) r2 r3
            have ml2 : f_M_part (some 1) x1 x2 g = if z_g (t_rec nw x tc q) = 0 then some (0, g_setI g 1 1 0) else some (1, g_setI g 1 1 0) := by
              rw [ml, e11, if_neg (by decide), if_pos (by decide)]
              unfold f_M_part_38
              rw [x_pI, x_gI, x_Iss, if_pos (by decide), if_neg (by decide), if_pos rfl, e1, x_nn, ir, x_c]
            by_cases c0 : z_g (t_rec nw x tc q) = 0
            · rw [if_pos c0] at cl ml2
              exact yes _ cl ml2
            · rw [if_neg c0] at cl ml2
              exact yes _ cl ml2
          · rw [if_neg e11] at cl
            by_cases e2 : x2 = 2
            · rw [if_pos e2] at cl
              have ml2 : f_M_part (some 1) x1 x2 g = if g_AI g 1620 q = -1 then some (Int32.ofNat (t_Xs nw x q).1 + 0, g_setI g 1 1 0) else some (Int32.ofNat (t_Xs nw x q).1 + 1, g_setI g 1 1 0) := by
                rw [ml, e2, if_neg (by decide), if_pos (by decide)]
                unfold f_M_part_38
                rw [x_pI, x_gI, x_Iss, if_pos (by decide), if_neg (by decide), if_neg (by decide), x_gR, R0, f2.1, e1, x_aI (by omega) (by rw [L0]; omega), A0, s1.2.2.1, x_gR, R0, f3.1, x_aI (by omega) (by rw [L0]; omega), A0]
              cases hc : (t_Xs nw x q).2.2.1 with
              | none =>
                rw [hc] at cl
                rw [if_pos (s1.2.2.2.2.2.1 hc), Int32.add_zero] at ml2
                exact yes _ cl ml2
              | some c =>
                rw [hc] at cl
                rw [if_neg (s1.2.2.2.2.2.2 c hc).1] at ml2
                exact yes _ cl ml2
            · rw [if_neg e2] at cl
              refine no2 (cl.trans (th 0)) ?_
              rw [ml]
              by_cases l0 : x2 < 0
              · rw [if_pos l0]
              · rw [if_neg l0]
                by_cases l2 : x2 ≤ 2
                · exfalso
                  have a2 : (2 : Int32).toInt = 2 := rfl
                  rw [Int32.lt_iff_toInt_lt, Int32.toInt_zero] at l0
                  rw [Int32.le_iff_toInt_le, a2] at l2
                  have : x2.toInt = 0 ∨ x2.toInt = 1 ∨ x2.toInt = 2 := by omega
                  rcases this with h | h | h
                  · exact e0 (Int32.toInt.inj h)
                  · exact e11 (Int32.toInt.inj h)
                  · exact e2 (Int32.toInt.inj h)
                · rw [if_neg l2]
      · refine no1 ?_ ?_
        · unfold f_E_part
          rw [x_gR, q1, if_neg (Option.some_ne_none _), if_neg n0, x_gR, q1, x_gI, y2, if_neg lt]; exact th 4
        · unfold f_M_part
          rw [x_gI, q2, if_neg (by decide), if_neg n0, x_gI, g1153, if_neg lt]
