/-! CALLS: prepare -/
theorem z_rm1 {a b l k n : Nat} (h1 : a ≤ b + 15 * k + 213) (h2 : k ≤ l) (h3 : b + 15 * l ≤ 200 + 600 * n) : a + 15 * 0 ≤ 200 + 600 * (n + 1) := by omega
theorem z_rm2 {a b l k n : Nat} (h1 : a ≤ b + 450 * k + 6534) (h2 : k ≤ l) (h3 : b + 450 * l ≤ 20000 + 10000 * n) : a + 450 * 0 ≤ 20000 + 10000 * (n + 1) := by
  have e1 : 450 * k ≤ 450 * l := Nat.mul_le_mul_left 450 h2
  rw [Nat.mul_zero, Nat.add_zero, Nat.mul_add, Nat.mul_one, ← Nat.add_assoc]
  refine Nat.le_trans h1 (Nat.add_le_add (Nat.le_trans (Nat.add_le_add_left e1 b) h3) ?_)
  decide
theorem op_prepare : z_op 512 Inv (f_Lw_prepare (some 0) (some 1237)) (f_M_prepare (some 1)) := by
  rintro n u hn ⟨g, nT, cols, cnt, cell, ca, len, T, hz, hJ⟩
  have rm := hJ.rm hn
  obtain ⟨E, ⟨F, KW⟩, ⟨TE, TM, tc1, tc2⟩, ⟨X1, X2, X3⟩, fl, room, iq⟩ := hJ
  have l4 := X1.2.1
  have H : z_H (z_n len T) (z_kdT len T) := z_Htok l4
  have NM := z_NMtok X3
  have hpl : ∀ i, i ≤ z_n len T → z_pl len T i ≤ 400 := fun i _ => Nat.le_trans z_pl_le l4
  have hmo : ∀ i j, i ≤ j → j ≤ z_n len T → z_pl len T i ≤ z_pl len T j := fun i j h _ => z_pl_mo h
  have nle : z_n len T ≤ len := z_nle
  have V2 : z_V false [320, 448] [] none u (g_setI (g_setR u 320 0 none) 448 0 0) := (z_V.re.pR none (Or.inl (by decide)) (by decide)).pI 0 (Or.inl (by decide))
  have E2 : E_0 (g_setI (g_setR u 320 0 none) 448 0 0) := E.ev V2 (by decide) (by decide) ⟨by decide, by decide, by decide⟩ (by decide)
  have Xs : z_XE (g_setI (g_setR u 320 0 none) 448 0 0) len T := ⟨by rw [x_I_I, if_neg (by decide)]; exact X1.1, l4, fun i hi => X1.2.2 i hi⟩
  obtain ⟨v, hcut, htk⟩ := e_cut X3 Xs E2.1
  have alT : ∀ t, t < nT → g_al u ((5 + t) * 64 + 5) := fun t ht => by
    show ((5 + t) * 64 + 5) / 64 < g_cnt u (((5 + t) * 64 + 5) % 64)
    rw [show ((5 + t) * 64 + 5) % 64 = 5 by omega, show ((5 + t) * 64 + 5) / 64 = 5 + t by omega, TE.2.2.1]
    omega
  obtain ⟨le, u', pB, pG, i384, i66, i448, c5, cn, sn⟩ := a_prep0 (vl := z_vlT len T) (cols := cols) H NM hpl hmo E TE.1 TE.2.1 (fun t ht => ⟨_, (TE.2.2.2 t ht).1, alT t ht, (TE.2.2.2 t ht).2.2.2.1, (tc1 t ht).2⟩) rm.1 rm.2 hcut htk
  obtain ⟨g', a, ea, cM, pe, t321, t1089, good⟩ := b_prep (tc := nT) (cols := cols) le F KW X3 X2 TM.1 TM.2.1 (fun t ht => ⟨(TM.2.2 t ht).1, (tc1 t ht).2⟩)
  rw [← ea] at pB pG i384
  have wM := w_M_prepare g F cM
  have fx' : m_Fix g' := wM.fx F
  have kw' : z_kwOk g' := KW.w wM (by decide)
  have TM' : z_TM g' nT (fun t => Int32.ofNat (cols t)) cnt cell := by
    refine ⟨(wM.fi (by decide)).trans TM.1, TM.2.1, fun t ht => ?_⟩
    have q1 : g_AI g' 916 = g_AI g 916 := wM.ai (by decide)
    have q2 : g_AI g' 980 = g_AI g 980 := wM.ai (by decide)
    have q3 : g_AL g' 597 = g_AL g 597 := wM.al (by decide)
    rw [q1, q2, q3]
    exact TM.2.2 t ht
  clear wM
  have JJ : ∀ o : (Int32 ⊕ Nat) × g_St, f_E_prepare (some 0) u = some o → o.2 = u' → z_M u' u ∧ (I_q u' g' nT cols → J (n + 1) u' g' nT cols cnt cell ca 0 T) := fun o cE eo => by
    have V := v_E_prepare (u := u) (some 0) u z_V.re cE
    rw [eo] at V
    have E' : E_0 u' := E.ev V (by decide) (by decide) ⟨by decide, by decide, by decide⟩ (by decide)
    refine ⟨V.toM E.2.1 E.2.2.2.2 (by decide) (by decide), fun hq => ⟨E', ⟨fx', kw'⟩, ⟨⟨by rw [(V.2.1 64 0 E.al.1 (by decide) (by simp)).1]; exact TE.1, TE.2.1, by rw [c5]; exact TE.2.2.1, fun t ht => ?_⟩, TM', tc1, tc2⟩, ⟨⟨i66, Nat.zero_le _, fun i hi => by omega⟩, ⟨t321, Nat.zero_le _, fun i hi => by omega⟩, fun i hi => by omega⟩, by rw [i384, pe.1], ⟨z_rm1 cn nle room.1, z_rm2 sn nle room.2⟩, hq⟩⟩
    obtain ⟨a1, a2, a3, a4, a5, a6, a7⟩ := TE.2.2.2 t ht
    have r29 : g_R u 0 0 = some 29 := (E.1.1 (0, 0, 29, 5) (by decide)).1
    have b1 := (V.arr E.2.1 (by decide) (k0 := 0) (by decide) r29 (by decide) (by decide)).2.2.2.2
    have b3 := (V.2.1 69 _ (alT t ht) (by decide) (by simp)).2.2
    have b5 := (V.2.1 5 _ (alT t ht) (by decide) (by simp)).1
    have b6 := (V.2.1 261 _ (alT t ht) (by decide) (by simp)).1
    have ar := V.arr E.2.1 (by decide) (k0 := 69) (by decide) a2 (fun h => by
      have := (E.2.1.2 69 (by decide) _ _ a2).2.1
      rw [h] at this
      exact absurd this (by decide)) (by decide)
    exact ⟨by rw [b1]; exact a1, by rw [b3]; exact a2, by rw [ar.2.1]; exact a3, by rw [b5]; exact a4, by rw [b6]; exact a5, a6, fun i k hi hk => by rw [ar.2.2.2.1]; exact a7 i k hi hk⟩
  cases ha : a with
  | some y =>
    rw [ha] at pB pe cM
    obtain ⟨cE, r320⟩ := pB rfl
    obtain ⟨zm, jj⟩ := JJ _ cE rfl
    refine I_th (m := f_M_prepare (some 1)) (fun a b c => l_M_prepare a b c) (fun s o a b => w_M_prepare s a b) (by decide) (k := 1) (s := u') ?_ (by decide) (zm.trans hz) F cM pe.2.1 (jj (Or.inl ⟨r320, pe.2.2, i448, t1089⟩))
    unfold f_Lw_prepare
    rw [x_nn, cE, x_cCr, if_pos rfl]
  | none =>
    rw [ha] at pG pe cM
    obtain ⟨cE, yq⟩ := pG rfl
    obtain ⟨hq, C, k1, k2, k3⟩ := good ha
    obtain ⟨q, W, hrr⟩ := z_qry_w hq
    obtain ⟨Q, b, lv, so, y1, y2, y3⟩ := yq (t_205m k1.2.2.1 W (le q hrr))
    obtain ⟨zm, jj⟩ := JJ _ cE rfl
    have J' := jj (Or.inr ⟨Q, b, _, _, _, _, _, _, _, _, nT, cols, lv, so, ⟨y1, pe.2.2, Nat.le_refl _, fun _ _ => rfl⟩, H, y2, y3, ⟨C, k1.2.1, k1.2.2.1, k2, k3⟩, Or.inl ⟨i448, t1089⟩⟩)
    refine I_ok (m := f_M_prepare (some 1)) (fun a b c => l_M_prepare a b c) (fun s o a b => w_M_prepare s a b) (by decide) (s := u') ?_ (zm.trans hz) F cM pe.2.1 J'
    unfold f_Lw_prepare
    rw [x_nn, cE, x_cCl, z_sL0 J'.1.1.2.2.2.2.2]
    rfl
