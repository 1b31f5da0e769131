/-! CALLS: run -/
section
variable {g : g_St} {nT : Nat} {cols cnt : Nat → Nat} {cell : Nat → Nat → Nat → Int64} {n : Nat} {kd pl nw nv : Nat → Nat} {wd vl : Nat → Int64} {x : z_Qu} {tc : Nat} {cq : Nat → Nat} {lv : Nat → Nat → Nat}
theorem I_runM {mr al : Nat} (F : m_Fix g) (TM : z_TM g nT (fun t => Int32.ofNat (cols t)) cnt cell) (tc1 : ∀ t, t < nT → 1 ≤ cols t ∧ cols t ≤ 3) (tc2 : ∀ t, t < nT → ∀ i k, i < cnt t → k < 3 → r_oor (cell t i k) = false) (q3 : tc ≤ nT) (H : z_H n kd) (P : t_P n kd pl nw nv wd vl x tc cq lv) (Mq : M_q g n kd pl nw vl x tc cq) (h1 : 1 ≤ mr) (h2 : mr ≤ 30) (h3 : 1 ≤ al) (h4 : al ≤ 48) : ∃ r g' w0, f_M_run_39 (some 1) (Int32.ofNat mr) (Int32.ofNat al) (some 1) 0 g = some (r, g') ∧ g_I w0 1089 1 = 0 ∧ M_fnr w0 g' r mr (t_sel nw vl x tc cq (lv (z_tot x.2.1)) x.2.2.1).1.length (t_ks nw x tc cq).length (z_cmp nw x tc).2 x.2.1.length (fun k => t_Xs nw x (t_pp nw x tc cq k)) (t_run nw vl x tc cq lv cnt cell mr al) := by
  obtain ⟨w0, e0⟩ : ∃ w, w = g_setI (g_setI (g_setI (g_setI (g_setI g 1 1 0) 1089 1 0) 5441 1 (Int32.ofNat al)) 4929 1 0) 5377 1 0 := ⟨_, rfl⟩
  have W0 : z_W M_LI M_LA g w0 := by
    rw [e0]
    exact ((((z_W.re.pI (by decide) _).pI (by decide) _).pI (by decide) _).pI (by decide) _).pI (by decide) _
  have F0 : m_Fix w0 := W0.fx F
  have I0 : ∀ k, g_I w0 k 1 = if k = 5377 then 0 else if k = 4929 then 0 else if k = 5441 then Int32.ofNat al else if k = 1089 then 0 else if k = 1 then 0 else g_I g k 1 := fun k => by
    rw [e0]
    simp only [x_I_I, and_true]
  have A0 : g_AI w0 = g_AI g ∧ g_AL w0 = g_AL g := by rw [e0]; exact ⟨rfl, rfl⟩
  have TM0 : z_TM w0 nT (fun t => Int32.ofNat (cols t)) cnt cell := ⟨by rw [I0, if_neg (by decide), if_neg (by decide), if_neg (by decide), if_neg (by decide), if_neg (by decide)]; exact TM.1, TM.2.1, fun t ht => by rw [A0.1, A0.2]; exact TM.2.2 t ht⟩
  obtain ⟨St, ⟨os, ofo, o2177, hkk, hgk, hpp⟩, h4865⟩ := t_qst F0 TM0 tc1 q3 H P (Mq.W W0)
  have own := P.own
  have Z := P.stl
  obtain ⟨NM, N, ⟨q, W, hq⟩, q4, hw, hcl, hs3, lvok, o1⟩ := P
  have n5 := TM.2.1
  have nc4 : (z_cmp nw x tc).2 ≤ 4 := by
    have := (z_cmp_cls (nw := nw) (x := x) (tc := tc) q4).2.2
    omega
  have S0 : M_st w0 x.2.1.length tc (t_Xs nw x) cq (t_tb cnt cell) [] := by
    refine ⟨F0, ⟨by omega, fun t ht => ?_⟩, ⟨by rw [I0, if_neg (by decide), if_pos rfl]; rfl, Nat.zero_le _, fun n q r h => by cases h⟩, q4, hw⟩
    obtain ⟨a1, a2, a3, a4⟩ := TM0.2.2 t (by omega)
    refine ⟨by rw [t_tb_l]; exact a2, by rw [t_tb_l]; exact a3, hcl t ht, fun i hi j hj => ?_⟩
    rw [t_tb_l] at hi
    have := hcl t ht
    rw [t_tb_g hi]
    exact a4 i j hi (by omega)
  obtain ⟨r, g', m1, m2⟩ := m_run73 (nm := t_nm nw x tc) (pp := t_pp nw x tc cq) (tbl := t_tb cnt cell) (mr := mr) (ow := t_sel nw vl x tc cq (lv (z_tot x.2.1)) x.2.2.1) St (by rw [I0, if_neg (by decide), if_neg (by decide), if_pos rfl]) h4865 nc4 h3 h4 h1 h2 (t_qok N q4) Z (fun c _ => t_cok N q4 (t_fl W) c) S0 (by rw [I0, if_neg (by decide), if_neg (by decide), if_neg (by decide), if_neg (by decide), if_pos rfl]) (by rw [I0, if_pos rfl]) (fun t ht c hc j hj => by
      obtain ⟨i, i1, i2⟩ := t_tb_m hc
      have := hcl t ht
      rw [i2]
      exact tc2 t (by omega) i j i1 (by omega)) o2177 os ofo own.2 own.1 hkk hgk hpp
  refine ⟨r, g', w0, ?_, by rw [I0, if_neg (by decide), if_neg (by decide), if_neg (by decide), if_pos rfl], m2⟩
  unfold f_M_run_39
  rw [x_pI, x_gI, x_Iss, if_pos (by decide), t_b0a, x_pI, x_pI, x_pI, ← e0]
  exact m1
end
theorem m_n39 {x1 x2 c : Int32} {g : g_St} (hc : ¬ c ≤ 0) : f_M_run_39 (some 1) x1 x2 (some 1) c g = some (0, g_setI g 1 1 c) := by
  unfold f_M_run_39
  rw [x_pI, x_gI, x_Iss, if_neg hc]
theorem op_run (x1 x2 : Int32) : z_op 512 Inv (f_Lw_run (some 0) x1 x2 (some 1237)) (f_M_run (some 1) x1 x2) := by
  rintro n u hn ⟨g, nT, cols, cnt, cell, ca, len, T, hz, hJ⟩
  have rm := hJ.rm hn
  have no : ∀ (e : Nat) (k : Int32), (if e = 0 then some ((1 : Int32), g_bump u 8 512) else if e = 1 then some (2, g_bump u 8 512) else none) = some (k, g_bump u 8 512) → ¬ k = 0 → ¬ k ≤ 0 → f_E_run (some 0) x1 x2 u = g_thr u e → f_M_run (some 1) x1 x2 g = f_M_run_39 (some 1) x1 x2 (some 1) k g → ∃ k b u1 u2, f_Lw_run (some 0) x1 x2 (some 1237) u = some (k, u1) ∧ f_M_run (some 1) x1 x2 u1 = some (b, u2) ∧ g_I u2 1 1 = k ∧ (k = 0 → 0 < g_ln u2 1237 ∧ g_AL u2 1237 0 = b.toInt64) ∧ Inv (n + 1) u2 := fun e k he hk hk2 h1 h2 => I_no (m := f_M_run (some 1) x1 x2) (fun a b c => l_M_run x1 x2 a b c) (fun s o a b => w_M_run x1 x2 s a b) (by decide) (k := k) (by
      unfold f_Lw_run
      rw [x_nn, h1, x_thr (by omega) (by omega), x_cCr]
      by_cases e0 : e = 0
      · rw [if_pos e0] at he ⊢
        exact he
      · rw [if_neg e0] at he ⊢
        by_cases e1 : e = 1
        · rw [if_pos e1] at he ⊢
          exact he
        · rw [if_neg e1] at he
          cases he) hk hz (h2.trans (m_n39 hk2)) hJ
  by_cases a1 : x1 < 1
  · refine no 0 1 rfl (by decide) (by decide) ?_ ?_
    · unfold f_E_run
      rw [if_pos a1]
    · unfold f_M_run
      rw [if_pos a1]
  by_cases a2 : 30 < x1
  · refine no 0 1 rfl (by decide) (by decide) ?_ ?_
    · unfold f_E_run
      rw [if_neg a1, if_pos a2]
    · unfold f_M_run
      rw [if_neg a1, if_pos a2]
  by_cases a3 : x2 < 1
  · refine no 0 1 rfl (by decide) (by decide) ?_ ?_
    · unfold f_E_run
      rw [if_neg a1, if_neg a2, if_pos a3]
    · unfold f_M_run
      rw [if_neg a1, if_neg a2, if_pos a3]
  by_cases a4 : x2 ≤ 48
  · have i1 : (1 : Int32).toInt = 1 := rfl
    have i30 : (30 : Int32).toInt = 30 := rfl
    have i48 : (48 : Int32).toInt = 48 := rfl
    obtain ⟨mr, h1, h2, e1⟩ : ∃ mr, 1 ≤ mr ∧ mr ≤ 30 ∧ x1 = Int32.ofNat mr := by
      have b1 := a1
      have b2 := a2
      rw [Int32.lt_iff_toInt_lt, i1] at b1
      rw [Int32.lt_iff_toInt_lt, i30] at b2
      have h0 : ¬ x1 < 0 := fun h => by rw [Int32.lt_iff_toInt_lt, Int32.toInt_zero] at h; omega
      have h31 : x1 < Int32.ofNat 31 := by rw [Int32.lt_iff_toInt_lt, Int32.toInt_ofNat_of_lt (by omega)]; omega
      obtain ⟨mr, m1, m2⟩ := z_nat h0 h31 (by omega)
      rw [m2, Int32.toInt_ofNat_of_lt (by omega)] at b1
      exact ⟨mr, by omega, by omega, m2⟩
    obtain ⟨al, h3, h4, e2⟩ : ∃ al, 1 ≤ al ∧ al ≤ 48 ∧ x2 = Int32.ofNat al := by
      have b1 := a3
      have b2 := a4
      rw [Int32.lt_iff_toInt_lt, i1] at b1
      rw [Int32.le_iff_toInt_le, i48] at b2
      have h0 : ¬ x2 < 0 := fun h => by rw [Int32.lt_iff_toInt_lt, Int32.toInt_zero] at h; omega
      have h49 : x2 < Int32.ofNat 49 := by rw [Int32.lt_iff_toInt_lt, Int32.toInt_ofNat_of_lt (by omega)]; omega
      obtain ⟨al, m1, m2⟩ := z_nat h0 h49 (by omega)
      rw [m2, Int32.toInt_ofNat_of_lt (by omega)] at b1
      exact ⟨al, by omega, by omega, m2⟩
    obtain ⟨E, ⟨F, KW⟩, ⟨TE, TM, tc1, tc2⟩, ⟨X1, X2, X3⟩, fl, room, iq⟩ := hJ
    rcases iq with ⟨q1, q2, q3, q4⟩ | ⟨Q, b, nn, kd, pl, nw, nv, wd, vl, x, tc, cq, lv, so, ⟨q1, q2, q3, q4⟩, H, P, Y, Mq, ia⟩
    · refine no 1 2 rfl (by decide) (by decide) ?_ ?_
      · unfold f_E_run
        rw [if_neg a1, if_neg a2, if_neg a3, if_pos a4, x_gR, q1, if_pos rfl]
      · unfold f_M_run
        rw [if_neg a1, if_neg a2, if_neg a3, if_pos a4, x_gI, q2, if_pos rfl]
    · obtain ⟨-, ⟨-, -, -, hkk, hgk, hpp⟩, -⟩ := t_qst F TM tc1 q3 H P Mq
      obtain ⟨wb, c1, c2, c3⟩ := I_runE (mr := mr) (al := al) E TE tc2 q3 P Y q1 hkk hgk hpp h1 h2 h3 h4 ⟨by omega, by omega⟩
      obtain ⟨r, g', w0, d1, d2, d3⟩ := I_runM (mr := mr) (al := al) F TM tc1 tc2 q3 H P Mq h1 h2 h3 h4
      rw [← e1, ← e2] at c1 d1
      have cM : f_M_run (some 1) x1 x2 g = some (r, g') := by
        unfold f_M_run
        rw [if_neg a1, if_neg a2, if_neg a3, if_pos a4, x_gI, q2, if_neg (by decide)]
        exact d1
      have wM := w_M_run x1 x2 g F cM
      have wd4 : (t_sel nw vl x tc cq (lv (z_tot x.2.1)) x.2.2.1).1.length = x.2.2.1.2.1.length := List.length_map _
      rw [wd4] at c3 d3
      -- what stands afterwards, however it ended
      have after : ∀ (o : (Int32 ⊕ Nat) × g_St) (w3 : g_St), f_E_run (some 0) x1 x2 u = some o → X_rf wb w3 → (∀ k a, ¬ (k = 448 ∧ a = 0) → g_I o.2 k a = g_I w3 k a) → g_R o.2 = g_R w3 → g_L o.2 = g_L w3 → g_AR o.2 = g_AR w3 → g_AL o.2 = g_AL w3 → g_AI o.2 = g_AI w3 → g_ln o.2 = g_ln w3 → g_cnt o.2 = g_cnt w3 → g_cn o.2 ≤ g_cn w3 + 8 → g_sn o.2 ≤ g_sn w3 + 512 → z_M o.2 g ∧ (I_a o.2 g' x.2.2.1.2.1.length x.2.1.length (z_cmp nw x tc).2 → J (n + 1) o.2 g' nT cols cnt cell ca len T) := by
        intro o w3 cE rf hI hR hL hAR hAL hAI hln hcnt hcn hsn
        have V := v_E_run (u := u) (some 0) x1 x2 u z_V.re cE
        have E' : E_0 o.2 := E.ev V (by decide) (by decide) ⟨by decide, by decide, by decide⟩ (by decide)
        refine ⟨(V.toM E.2.1 E.2.2.2.2 (by decide) (by decide)).trans hz, fun hia => ?_⟩
        obtain ⟨⟨bc, bn, bs, bL, bAR, bln, bAL, bAI⟩, bR, bI, bq, bz⟩ := c2
        have c2 : X_bgn u wb Q (mr) (al) := ⟨⟨bc, bn, bs, bL, bAR, bln, bAL, bAI⟩, bR, bI, bq, bz⟩
        obtain ⟨⟨fc, fn, fs, fL, fAR, fln⟩, fR, fI, fAL, fAI⟩ := rf
        have rf : X_rf wb w3 := ⟨⟨fc, fn, fs, fL, fAR, fln⟩, fR, fI, fAL, fAI⟩
        have gI : ∀ k a, ¬ (k = 448 ∧ a = 0) → a ≠ 4 → a % 64 ≠ 9 → ¬ (a % 64 = 5 ∧ a < 320) → ¬ (k = 585 ∨ k = 649 ∨ k = 713 ∨ k = 777) → g_I o.2 k a = g_I u k a := fun k a n1 n2 n3 n4 n5 => by
          rw [hI k a n1, fI k a n5 (fun h => n2 h.1) (fun h => n4 ⟨h.1, h.2.1⟩), bI k a (fun h => n1 ⟨h.2, h.1⟩) (fun h => n2 h.1) (fun h => n4 ⟨h.1, h.2.1⟩)]
        have gR : ∀ k a, a ≠ 4 → a % 64 ≠ 9 → g_R o.2 k a = g_R u k a := fun k a n1 n2 => by
          rw [hR, fR k a (fun h => n2 h.2) (fun h => n1 h.1), bR k a (fun h => n1 h.1)]
        have ag : E_ag u o.2 := (c2.ag.trans rf.ag).trans ⟨fun a a1 a2 => ⟨fun k _ _ _ _ => hI k a (fun h => by have := h.2; omega), fun k _ => by rw [hR], fun k => by rw [hL]⟩, fun a _ _ => ⟨by rw [hAR], by rw [hln]⟩⟩
        refine ⟨E', ⟨wM.fx F, KW.w wM (by decide)⟩, ⟨⟨by rw [gI _ _ (by decide) (by decide) (by decide) (by decide) (by decide)]; exact TE.1, TE.2.1, by rw [hcnt, fc, bc]; exact TE.2.2.1, fun t ht => ?_⟩, ⟨by rw [wM.fi (by decide)]; exact TM.1, TM.2.1, fun t ht => ?_⟩, tc1, tc2⟩, ⟨⟨by rw [gI _ _ (by decide) (by decide) (by decide) (by decide) (by decide)]; exact X1.1, X1.2.1, fun i hi => ?_⟩, ⟨by rw [wM.fi (by decide)]; exact X2.1, X2.2.1, fun i hi => by rw [wM.ai (by decide)]; exact X2.2.2 i hi⟩, X3⟩, by rw [gI _ _ (by decide) (by decide) (by decide) (by decide) (by decide), wM.fi (by decide)]; exact fl, ⟨?_, ?_⟩, Or.inr ⟨Q, b, nn, kd, pl, nw, nv, wd, vl, x, tc, cq, lv, so, ⟨by rw [gR _ _ (by decide) (by decide)]; exact q1, by rw [wM.fi (by decide)]; exact q2, q3, q4⟩, H, P, Y.ag ag, Mq.W (wM.mono (by decide) (by decide)), hia⟩⟩
        · obtain ⟨t1, t2, t3, t4, t5, t6, t7⟩ := TE.2.2.2 t ht
          have c597 := z_ca597 E t2
          refine ⟨by rw [hAR, fAR, bAR]; exact t1, by rw [gR _ _ (by omega) (by omega)]; exact t2, by rw [hln, fln, bln]; exact t3, by rw [gI _ _ (fun h => by have := h.1; omega) (by omega) (by omega) (fun h => by have := h.2; omega) (by decide)]; exact t4, by rw [gI _ _ (fun h => by have := h.1; omega) (by omega) (by omega) (fun h => by have := h.2; omega) (by decide)]; exact t5, t6, fun i k hi hk => ?_⟩
          rw [hAL, fAL _ _ (fun h => by have := h.2.2; omega), bAL]
          exact t7 i k hi hk
        · have q1 : g_AI g' 916 = g_AI g 916 := wM.ai (by decide)
          have q2 : g_AI g' 980 = g_AI g 980 := wM.ai (by decide)
          have q3 : g_AL g' 597 = g_AL g 597 := wM.al (by decide)
          rw [q1, q2, q3]
          exact TM.2.2 t ht
        · rw [hAI, fAI _ _ (fun h => by have := h.1; omega), bAI]
          exact X1.2.2 i hi
        · rw [fn, bn] at hcn
          have := room.1
          omega
        · rw [fs, bs] at hsn
          have r2 := room.2
          have e3 : 20000 + 10000 * (n + 1) = 20000 + 10000 * n + 10000 := by rw [Nat.mul_add, Nat.mul_one, ← Nat.add_assoc]
          rw [e3]
          refine Nat.le_trans (Nat.add_le_add_right hsn _) ?_
          rw [Nat.add_right_comm]
          exact Nat.add_le_add r2 (by decide)
      have b448 : g_I wb 448 0 = 0 := c2.2.2.2.1.2.2.2.2.2
      cases hR : t_run nw vl x tc cq lv cnt cell mr al with
      | inr c =>
        rw [hR] at c3 d3
        obtain ⟨w3, k1, k2⟩ := c3
        obtain ⟨m1, m2, m3, m4⟩ := d3
        have cE : f_E_run (some 0) x1 x2 u = some (.inr c, g_bump w3 8 512) := c1.trans k1
        obtain ⟨zm, jj⟩ := after _ w3 cE k2 (fun _ _ _ => rfl) rfl rfl rfl rfl rfl rfl rfl (Nat.le_refl _) (Nat.le_refl _)
        have J' := jj (Or.inl ⟨by
          show g_I w3 448 0 = 0
          rw [k2.2.2.1 _ _ (by decide) (by decide) (by decide)]; exact b448, by rw [m4]; exact d2⟩)
        have ce := r_run_er hR
        refine I_th (m := f_M_run (some 1) x1 x2) (fun a b c => l_M_run x1 x2 a b c) (fun s o a b => w_M_run x1 x2 s a b) (by decide) (k := Int32.ofNat (c + 1)) (s := g_bump w3 8 512) ?_ ?_ zm F cM m2 J'
        · unfold f_Lw_run
          rw [x_nn, cE, x_cCr]
          rcases ce with e | e
          · rw [e, if_neg (by decide), if_neg (by decide), if_pos rfl]; rfl
          · rw [e, if_neg (by decide), if_neg (by decide), if_neg (by decide), if_pos rfl]; rfl
        · rcases ce with e | e <;> (rw [e]; decide)
      | inl a =>
        rw [hR] at c3 d3
        obtain ⟨w', k1, ⟨⟨w3, k2, k3⟩, k4, k5, k6, k7, k8, k9⟩, k10⟩ := c3
        obtain ⟨m1, m2, m3, m4, m5, m6, m7, m8, m9, m10, m11, m12, m13⟩ := d3
        have cE : f_E_run (some 0) x1 x2 u = some (.inl (Int32.ofNat a.1.length), w') := c1.trans k1
        obtain ⟨zm, jj⟩ := after _ w3 cE k2 (fun k a h => by show g_I w' k a = _; rw [k3, x_I_I, if_neg h]) (by rw [k3]; rfl) (by rw [k3]; rfl) (by rw [k3]; rfl) (by rw [k3]; rfl) (by rw [k3]; rfl) (by rw [k3]; rfl) (by rw [k3]; rfl) (by rw [k3]; exact Nat.le_add_right _ _) (by rw [k3]; exact Nat.le_add_right _ _)
        have J' := jj (Or.inr ⟨by
          show g_I w' 448 0 = 1
          rw [k3, x_Iss]; rfl, m3, a.1.length, fun i => (r_srt (fun x' y' => decide (r_car x.2.2.1.2.1.length (t_ks nw x tc cq).length (fun k => t_Xs nw x (t_pp nw x tc cq k)) (a.1.getD x' r_an0) (a.1.getD y' r_an0) < 0)) a.1.length).getD i 0, fun i j => (a.1.getD i r_an0).1 j, a.2.1, fun q => (a.2.2 q).length, ⟨k4, (r_srt_ok _ _).2, k10⟩, ⟨k5, k6, k7, k8, k9⟩, ⟨m4, m5, m6, m7⟩, m9, m10, fun i hi => ⟨(m12 i hi).1, (m12 i hi).2.1⟩, m13⟩)
        rw [m1] at cM
        refine I_ok (m := f_M_run (some 1) x1 x2) (fun a b c => l_M_run x1 x2 a b c) (fun s o a b => w_M_run x1 x2 s a b) (by decide) (s := w') (i := Int32.ofNat a.1.length) ?_ zm F cM m2 J'
        unfold f_Lw_run
        rw [x_nn, cE, x_cCl, z_sL0 J'.1.1.2.2.2.2.2]
  · refine no 0 1 rfl (by decide) (by decide) ?_ ?_
    · unfold f_E_run
      rw [if_neg a1, if_neg a2, if_neg a3, if_neg a4]
    · unfold f_M_run
      rw [if_neg a1, if_neg a2, if_neg a3, if_neg a4]
