/-! THE CHECK: shapes, whole (reference) -/
theorem z_fre {α β σ σ' τ : Type} (l : List α) (d0 : α) (K : Nat → Nat → σ → Option β) (E : σ' → Option β) (I : σ → τ → Prop) (J : σ' → τ → Prop) (nt : τ → α → τ)
    (hE : ∀ f u a, I u a → ∃ u', K (f + 1) l.length u = E u' ∧ J u' a)
    (turn : ∀ f i u a, i < l.length → I u a → ∃ v, K (f + 1) i u = K f (i + 1) v ∧ I v (nt a (l.getD i d0))) :
    ∀ (t : List α) (i : Nat) (u : σ) (a : τ) (f : Nat), l.drop i = t → i ≤ l.length → t.length < f → I u a → ∃ u', K f i u = E u' ∧ J u' (t.foldl nt a) := by
  intro t
  induction t with
  | nil =>
    intro i u a f h1 h2 h3 h4
    have hi : l.length ≤ i := List.drop_eq_nil_iff.mp h1
    obtain ⟨f, rfl⟩ : ∃ m, f = m + 1 := ⟨f - 1, by omega⟩
    have e : i = l.length := by omega
    rw [e]
    exact hE f u a h4
  | cons y t ih =>
    intro i u a f h1 h2 h3 h4
    have hi : i < l.length := by
      by_cases w : i < l.length
      · exact w
      · rw [List.drop_eq_nil_of_le (by omega)] at h1; cases h1
    have hdr : l.drop (i + 1) = t := by
      have := List.drop_drop (i := 1) (j := i) (l := l)
      rw [h1] at this
      rw [show i + 1 = i + 1 from rfl, ← this]; rfl
    have hyi : l.getD i d0 = y := by
      have := List.drop_eq_getElem_cons hi
      rw [h1] at this
      rw [List.getD_eq_getElem?_getD, List.getElem?_eq_getElem hi]
      exact (List.cons.inj this).1.symm
    obtain ⟨f, rfl⟩ : ∃ m, f = m + 1 := ⟨f - 1, by omega⟩
    obtain ⟨v, v1, v2⟩ := turn f i u a hi h4
    rw [hyi] at v2
    obtain ⟨u', r1, r2⟩ := ih (i + 1) v _ f hdr (by omega) (by rw [List.length_cons] at h3; omega) v2
    exact ⟨u', v1.trans r1, r2⟩
theorem z_cnt_le {P : Nat → Bool} : ∀ (l : List Nat) (a : Nat), l.foldl (fun a t => if P t = true then a + 1 else a) a ≤ a + l.length := by
  intro l
  induction l with
  | nil => intro a; exact Nat.le_refl _
  | cons x l ih =>
    intro a
    rw [List.foldl_cons, List.length_cons]
    split
    · have := ih (a + 1); omega
    · have := ih a; omega
theorem z_tnm_le {nw : Nat → Nat} {ps : List z_Pa} {tc p : Nat} {y : z_Se} (h1 : y.2.2.1.length ≤ 3) (h2 : y.2.2.2.length ≤ 6) : z_tnm nw ps tc p y ≤ 9 := by
  have := z_cnt_le (P := z_isp nw ps tc p) (z_srt y) 0
  unfold z_tnm
  have e : (z_srt y).length ≤ 9 := by
    unfold z_srt
    rw [List.length_append]
    have := List.length_filterMap_le z_ci y.2.2.2
    omega
  omega
section
variable {n : Nat} {kd pl nw nv : Nat → Nat} {wd vl : Nat → Int64}
theorem b_shk (H : z_H n kd) (hpl : ∀ i, i ≤ n → pl i ≤ 400) {u0 : g_St} {C : Nat → Nat} {x : z_Qu} {tc : Nat} {cols : Nat → Nat} (K : M_ck n kd pl vl u0 C x tc cols) {q : Nat} (W : z_wqu kd q x) (hq : q ≤ n) (hA : M_all n kd nw u0 C x tc cols) {r : Nat → Nat} (R : M_rh u0 x.2.1.length r) (k2 : Option Nat → Int32 → g_St → Option (Unit × g_St)) {k : Nat} (hk : k < x.2.1.length) {u : g_St} (hu : z_W [833, 897] [] u0 u) {a : Option (Nat × Nat)} (l : Bool) (ha : M_nt u a) : ∃ u', f_M_checkShapes_42 k2 200000 (some 1) (Int32.ofNat k) (Int32.ofNat (pl (x.2.1.getD k z_pa0).1)) (z_g l) 0 u = k2 (some 1) (Int32.ofNat (k + 1)) u' ∧ z_W [833, 897] [] u0 u' ∧ M_nt u' (z_sh2 nw pl x tc r k ((x.2.1.getD k z_pa0).2.2.1.foldl (z_sh1 nw pl x tc r k) (a, l))) := by
  have hp := z_wqu_ps W hq
  have q4 := K.2.2.1.2.2.2.1
  have lim : z_lim C := K.2.2.1.2.2.2.2.2.2.2.2.2.2
  have N0 : M_np u0 x.2.1.length := ⟨K.1, by rw [K.2.2.1.1 1153 (by decide), K.2.2.1.2.2.1], q4⟩
  have Au : ∀ {u : g_St}, z_W [833, 897] [] u0 u → ∀ a, g_AI u a = g_AI u0 a := fun w a => (w.2.2.2.2.2.2.2.2 a (by intro h; cases h)).1
  have Ru : ∀ {u : g_St}, z_W [833, 897] [] u0 u → M_rh u x.2.1.length r := fun w k hk => by rw [Au w]; exact R k hk
  have KW : ∀ {u : g_St}, z_W [833, 897] [] u0 u → M_ck n kd pl vl u C x tc cols := fun w => K.W w (by decide) (by decide) (by decide) (by decide)
  have AW : ∀ {u : g_St}, z_W [833, 897] [] u0 u → M_all n kd nw u C x tc cols := fun w => hA.W w (by decide)
  have pv := K.2.2.1.2.2.2.2.1 k hk
  have l4 := pv.2.2.2.2.2.2.2.2.2.2.2.2
  have l3 := pv.2.2.2.2.2.2.2.2.2.2.2.1
  have tl := z_tog_lt (m := x.2.1.length) (r := r) (p := k) (by omega) q4
  obtain ⟨wa, wb, w1, w2, w3, w4, w5⟩ := W
  have wl := z_wod_le w4
  obtain ⟨p1, q1, g1, g2, g3⟩ := w1.all _ (z_getD_m (d := z_pa0) hk)
  obtain ⟨-, -, ca, cb, cd, c1, c2, c3, c4, c5, c5'⟩ := g3
  have lb : cb ≤ q1 := by
    have l3 : cb ≤ cd := by
      revert c3
      cases (x.2.1.getD k z_pa0).2.2.2.2.1 with
      | none => intro c3; exact c3
      | some y => intro c3; have := c3.1; have := c3.2.2.2; omega
    have l4 : cd ≤ q1 := by
      revert c4
      cases (x.2.1.getD k z_pa0).2.2.2.2.2 with
      | none => intro c4; exact c4
      | some y => intro c4; have := c4.1; have := c4.2.2.2; omega
    omega
  obtain ⟨u', e1, e2, e3⟩ := z_fre (x.2.1.getD k z_pa0).2.2.1 z_se0 (fun f i (v : g_St × Bool) => f_M_checkShapes_42 k2 f (some 1) (Int32.ofNat k) (Int32.ofNat (pl (x.2.1.getD k z_pa0).1)) (z_g v.2) (Int32.ofNat i) v.1) (fun u' => k2 (some 1) (Int32.ofNat (k + 1)) u') (fun v (a : Option (Nat × Nat) × Bool) => z_W [833, 897] [] u0 v.1 ∧ M_nt v.1 a.1 ∧ v.2 = a.2) (fun u' a => z_W [833, 897] [] u0 u' ∧ M_nt u' (z_sh2 nw pl x tc r k a)) (z_sh1 nw pl x tc r k)
    (fun f v a hI => by
      obtain ⟨i1, i2, i3⟩ := hI
      obtain ⟨u', b1, b2, b3⟩ := b_sh2 k2 H hpl (KW i1) hp (AW i1) (Ru i1) hk (by omega) (l := v.2) i2 (f := f)
      rw [i3] at b3
      exact ⟨u', b1, i1.trans b2, b3⟩)
    (fun f i v a hi hI => by
      obtain ⟨i1, i2, i3⟩ := hI
      have hm := i1.fx K.1
      have pw := (KW i1).2.2.1.2.2.2.2.1 k hk
      have se := pv.2.2.2.2.2.1.2 i hi
      have tt : z_tot (x.2.1.take k) + i < 17 := by have := se.1; have := lim.1; omega
      obtain ⟨p2, q2, j1, j2, j3⟩ := c2.all _ (z_getD_m (d := z_se0) hi)
      have i4 := se.2.2.2.2.2.2.2.2.2.2
      generalize hy : (x.2.1.getD k z_pa0).2.2.1.getD i z_se0 = y at *
      obtain ⟨y1, ya, yb, x1, x2, x3⟩ := j3
      have yl : y.1 < n ∨ y.1 ≤ n := Or.inr (by have := x1.le; have := x2.le; have := x3.le; omega)
      obtain ⟨v3, t1, t2, t3, t4⟩ := z_ntq i2 (m := 3) (p := pl y.1) (by decide) (by decide) (hpl _ (by omega)) (decide (¬ y.2.1.length = (x.2.1.getD k z_pa0).2.1.length))
      have W3 := i1.trans t1
      have hm3 := W3.fx K.1
      have st1 : f_M_checkShapes_42 k2 (f + 1) (some 1) (Int32.ofNat k) (Int32.ofNat (pl (x.2.1.getD k z_pa0).1)) (z_g v.2) (Int32.ofNat i) v.1 = f_M_checkShapes_92 (f_M_checkShapes_42 k2 f) (some 1) (Int32.ofNat k) (Int32.ofNat (pl (x.2.1.getD k z_pa0).1)) (z_g v.2) (Int32.ofNat i) (Int32.ofNat (z_tot (x.2.1.take k) + i)) v3 := by
        rw [f_M_checkShapes_42, x_gR, (m_at hm m_k2049).1, x_aI (by omega) (by rw [(m_at hm m_k2049).2]; omega), pw.2.2.2.2.2.2.1, if_neg (by rw [x_le (by omega) (by omega)]; omega), x_gR, (m_at hm m_k1985).1, x_aI (by omega) (by rw [(m_at hm m_k1985).2]; omega), pw.2.2.2.2.1, x_gR, (m_at hm m_k2433).1, x_add, x_aI (by omega) (by rw [(m_at hm m_k2433).2]; exact tt), Au i1, se.2.2.2.2.1, x_gR, (m_at hm m_k1281).1, x_aI (by omega) (by rw [(m_at hm m_k1281).2]; omega), pw.2.2.1, x_gR, (m_at hm m_k2305).1, x_aI (by omega) (by rw [(m_at hm m_k2305).2]; exact tt), Au i1, se.2.2.1, x_nn, show (3 : Int32) = Int32.ofNat 3 from rfl]
        have ce : (Int32.ofNat y.2.1.length = Int32.ofNat (x.2.1.getD k z_pa0).2.1.length) = (y.2.1.length = (x.2.1.getD k z_pa0).2.1.length) := x_eq (by omega) (by omega)
        by_cases w : y.2.1.length = (x.2.1.getD k z_pa0).2.1.length
        · rw [if_pos (by rw [ce]; exact w), t4 (decide_eq_false (fun q => q w))]
        · rw [if_neg (by rw [ce]; exact w), t3 (decide_eq_true w), x_c]
      -- barred
      have bar : ∃ v5, f_M_checkShapes_92 (f_M_checkShapes_42 k2 f) (some 1) (Int32.ofNat k) (Int32.ofNat (pl (x.2.1.getD k z_pa0).1)) (z_g v.2) (Int32.ofNat i) (Int32.ofNat (z_tot (x.2.1.take k) + i)) v3 = f_M_checkShapes_111 (f_M_checkShapes_42 k2 f) (some 1) (Int32.ofNat k) (Int32.ofNat (pl (x.2.1.getD k z_pa0).1)) (z_g v.2) (Int32.ofNat i) (Int32.ofNat (z_tot (x.2.1.take k) + i)) v5 ∧ z_W [833, 897] [] u0 v5 ∧ M_nt v5 (z_sh1 nw pl x tc r k a y).1 := by
        have ir := b_irc (N0.W W3 (by decide)) (Ru W3) hk
        have tg := b_tog (N0.W W3 (by decide)) (Ru W3) hk
        have rs := (AW W3).sel hk hi
        have se3 := ((KW W3).2.2.1.2.2.2.2.1 k hk).2.2.2.2.2.1.2 i hi
        rw [hy] at rs se3
        obtain ⟨v5, o1, o2, o3⟩ := b_bar (nw := nw) H hpl (KW W3) (AW W3) rs se3 ⟨y1, ya, yb, x1, x2, x3⟩ (by omega) tl t2
        unfold f_M_checkShapes_92 z_sh1
        rw [x_nn, ir, x_c]
        cases hrc : (r k).testBit k with
        | false => rw [if_pos (by decide)]; exact ⟨v3, rfl, W3, t2⟩
        | true =>
          rw [if_neg (by decide), x_nn, tg, x_c, x_nn, o1, x_c]
          exact ⟨v5, rfl, W3.trans o2, o3⟩
      obtain ⟨v5, b1, b2, b3⟩ := bar
      have rs := (AW b2).sel hk hi
      have se5 := ((KW b2).2.2.1.2.2.2.2.1 k hk).2.2.2.2.2.1.2 i hi
      rw [hy] at rs se5
      have tn := b_tnm (nw := nw) (KW b2) rs se5 (p := k) (by omega)
      have tnl := z_tnm_le (nw := nw) (ps := x.2.1) (tc := tc) (p := k) i4.2.1 i4.2.2
      have b4 : f_M_checkShapes_111 (f_M_checkShapes_42 k2 f) (some 1) (Int32.ofNat k) (Int32.ofNat (pl (x.2.1.getD k z_pa0).1)) (z_g v.2) (Int32.ofNat i) (Int32.ofNat (z_tot (x.2.1.take k) + i)) v5 = f_M_checkShapes_42 k2 f (some 1) (Int32.ofNat k) (Int32.ofNat (pl (x.2.1.getD k z_pa0).1)) (z_g (v.2 && decide (z_tnm nw x.2.1 tc k y ≤ 1))) (Int32.ofNat (i + 1)) v5 := by
        unfold f_M_checkShapes_111
        rw [x_nn, tn, x_c, x_p1]
        have ce : (Int32.ofNat (z_tnm nw x.2.1 tc k y) ≤ 1) = (z_tnm nw x.2.1 tc k y ≤ 1) := x_le (b := 1) (by omega) (by omega)
        by_cases w : z_tnm nw x.2.1 tc k y ≤ 1
        · rw [if_pos (by rw [ce]; exact w), decide_eq_true w, Bool.and_true]
        · rw [if_neg (by rw [ce]; exact w), decide_eq_false w, Bool.and_false]; rfl
      refine ⟨(v5, v.2 && decide (z_tnm nw x.2.1 tc k y ≤ 1)), (st1.trans b1).trans b4, b2, b3, ?_⟩
      show (v.2 && _) = (a.2 && _)
      rw [i3])
    (x.2.1.getD k z_pa0).2.2.1 0 (u, l) (a, l) 200000 rfl (Nat.zero_le _) (by omega) ⟨hu, ha, rfl⟩
  exact ⟨u', e1, e2, e3⟩
/-- all that looking at shapes notes -/
def z_sht (nw pl : Nat → Nat) (x : z_Qu) (tc : Nat) (a : Option (Nat × Nat)) : Option (Nat × Nat) := (List.range x.2.1.length).foldl (z_shp nw pl x tc (z_rch nw x tc)) a
theorem b_sht (H : z_H n kd) (hpl : ∀ i, i ≤ n → pl i ≤ 400) {u0 : g_St} {C : Nat → Nat} {x : z_Qu} {tc : Nat} {cols : Nat → Nat} (K : M_ck n kd pl vl u0 C x tc cols) {q : Nat} (W : z_wqu kd q x) (hq : q ≤ n) (hA : M_all n kd nw u0 C x tc cols) (R : M_rh u0 x.2.1.length (z_rch nw x tc)) {a : Option (Nat × Nat)} (ha : M_nt u0 a) : ∃ u', f_M_checkShapes (some 1) u0 = some ((), u') ∧ z_W [833, 897] [] u0 u' ∧ M_nt u' (z_sht nw pl x tc a) := by
  have hn := H.2.1
  have hp := z_wqu_ps W hq
  have q4 := K.2.2.1.2.2.2.1
  have N0 : M_np u0 x.2.1.length := ⟨K.1, by rw [K.2.2.1.1 1153 (by decide), K.2.2.1.2.2.1], q4⟩
  have Au : ∀ {u : g_St}, z_W [833, 897] [] u0 u → ∀ a, g_AI u a = g_AI u0 a := fun w a => (w.2.2.2.2.2.2.2.2 a (by intro h; cases h)).1
  have Ru : ∀ {u : g_St}, z_W [833, 897] [] u0 u → M_rh u x.2.1.length (z_rch nw x tc) := fun w k hk => by rw [Au w]; exact R k hk
  obtain ⟨u', e1, e2, e3⟩ := z_fr (List.range x.2.1.length) 0 (fun f i v => f_M_checkShapes_2 f (some 1) (Int32.ofNat i) v) (fun v => some ((), v)) (fun v a => z_W [833, 897] [] u0 v ∧ M_nt v a) (z_shp nw pl x tc (z_rch nw x tc))
    (fun f v a hI => by
      show f_M_checkShapes_2 (f + 1) _ _ v = _
      rw [f_M_checkShapes_2, x_gI, (N0.W hI.1 (by decide)).2.1, List.length_range, if_pos (by rw [x_le (by omega) (by omega)]; exact Nat.le_refl _)])
    (fun f i v a hi hI => by
      rw [List.length_range] at hi
      rw [z_range_getD hi]
      have N := N0.W hI.1 (by decide)
      have hm := N.1
      have tg := b_tog N (Ru hI.1) hi
      have tl := z_tog_lt (m := x.2.1.length) (r := z_rch nw x tc) (p := i) (by omega) q4
      have pk := (hp i hi).1.1
      have pv := K.2.2.1.2.2.2.2.1 i hi
      have p16 := z_p16 (show i < 4 by omega)
      obtain ⟨w, w1, w2, w3⟩ := b_shk (nw := nw) H hpl K W hq hA R (f_M_checkShapes_2 f) hi hI.1 (decide (z_tog x.2.1.length (z_rch nw x tc) i = 2 ^ i)) hI.2
      refine ⟨w, ?_, w2, w3⟩
      show f_M_checkShapes_2 (f + 1) _ _ v = _
      rw [f_M_checkShapes_2, x_gI, N.2.1, if_neg (by rw [x_le (by omega) (by omega)]; omega), x_gR, (m_at hm m_k705).1, x_gR, (m_at hm m_k1217).1, x_aI (by omega) (by rw [(m_at hm m_k1217).2]; omega), Au hI.1, pv.2.1, x_aI (by omega) (by rw [(m_at hm m_k705).2]; omega), Au hI.1, (K.2.1 _ (by omega)).2.1, x_nn, tg, x_c, z_shl ⟨i, by omega⟩]
      have ce : (Int32.ofNat (z_tog x.2.1.length (z_rch nw x tc) i) = Int32.ofNat (2 ^ i)) = (z_tog x.2.1.length (z_rch nw x tc) i = 2 ^ i) := x_eq (by omega) (by omega)
      by_cases ww : z_tog x.2.1.length (z_rch nw x tc) i = 2 ^ i
      · rw [decide_eq_true ww] at w1
        rw [if_pos (by rw [ce]; exact ww)]
        exact w1
      · rw [decide_eq_false ww] at w1
        rw [if_neg (by rw [ce]; exact ww)]
        exact w1)
    (List.range x.2.1.length) 0 u0 a 200000 rfl (Nat.zero_le _) (by rw [List.length_range]; omega) ⟨z_W.re, ha⟩
  unfold f_M_checkShapes
  exact ⟨u', e1, e2, e3⟩
end
