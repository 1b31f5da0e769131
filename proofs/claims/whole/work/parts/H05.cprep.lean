/-! PREPARING: the engine, whole -/
theorem t_b0a {α : Type} (u : g_St) (k a : Nat) (F : g_St → Option α) : g_pZ u k (some a) 0 F = F (g_setI u k a 0) := x_pZ false F
/-- what is pure of a good query -/
def t_P (n : Nat) (kd pl nw nv : Nat → Nat) (wd vl : Nat → Int64) (x : z_Qu) (tc : Nat) (cols : Nat → Nat) (lv : Nat → Nat → Nat) : Prop := z_NM n kd wd vl nw nv ∧ t_nf nw pl x tc cols ∧ (∃ q, z_wqu kd q x ∧ q ≤ n) ∧ x.2.1.length ≤ 4 ∧ (∀ k, k < x.2.1.length → (x.2.1.getD k z_pa0).2.1.length ≤ 3) ∧ (∀ t, t < tc → cols t ≤ 3) ∧ (∀ s, s < (z_sels x).length → (z_sv x s).2.2.2.1.length ≤ 3) ∧ t_lvok nw x lv ∧ 1 ≤ x.2.2.1.2.1.length
theorem a_p49b {s : g_St} (F : g_R s 128 0 = some 2) (p : Option Nat) {code : Int32} (hc : ¬ code = 0) (h1 : g_cn s + 8 ≤ 601024) (h2 : g_sn s + 512 ≤ 7293034) : f_E_prepare_49 (some 0) p (some 0) code s = some (.inr 0, g_bump (g_setI (g_setI s 384 0 code) 66 2 0) 8 512) := by
  have h384 : g_I (g_setI (g_setI s 384 0 code) 66 2 0) 384 0 = code := by rw [x_I_I, if_neg (fun q => by have := q.1; omega), x_Iss]
  unfold f_E_prepare_49
  rw [x_pI, x_gR, show g_R (g_setI s 384 0 code) 128 0 = some 2 from F, x_pI, x_gI, h384, if_neg hc]
  exact x_thr h1 h2
theorem a_p49g {s : g_St} (F : g_R s 128 0 = some 2) {Q : Nat} (hQ : Q % 64 = 6) : f_E_prepare_49 (some 0) (some Q) (some 0) 0 s = some (.inl (g_I s 70 Q), g_setR (g_setI (g_setI s 384 0 0) 66 2 0) 320 0 (some Q)) := by
  have h384 : g_I (g_setI (g_setI s 384 0 0) 66 2 0) 384 0 = 0 := by rw [x_I_I, if_neg (fun q => by have := q.1; omega), x_Iss]
  unfold f_E_prepare_49
  rw [x_pI, x_gR, show g_R (g_setI s 384 0 0) 128 0 = some 2 from F, x_pI, x_gI, h384, if_pos rfl, if_neg (Option.some_ne_none _), x_pR, x_gI]
  have e : g_I (g_setR (g_setI (g_setI s 384 0 0) 66 2 0) 320 0 (some Q)) 70 Q = g_I s 70 Q := by
    show g_I (g_setI (g_setI s 384 0 0) 66 2 0) 70 Q = _
    rw [x_I_I, if_neg (fun q => by have := q.2; omega), x_I_I, if_neg (fun q => by have := q.2; omega)]
  rw [e]
section
variable {n : Nat} {kd pl nw nv : Nat → Nat} {wd vl : Nat → Int64} {tc : Nat} {cols : Nat → Nat}
theorem t_kS {c : z_Cx} {A O : Nat} {b : Nat → Nat} {x : z_Qu} {u0 : g_St} {r : z_P} {w p : Nat} (B : E_b n kd pl wd c u0 r w) (hr : r = .inr p) (Q : E_qu pl wd c u0 A O b x) (h9 : b 9 = c.2.2.2.1 9) (h11 : b 11 = c.2.2.2.1 11) (tc5 : tc ≤ 5) (tb : ∀ t, t < tc → ∃ r, g_AR u0 29 t = some r ∧ g_I u0 5 r = Int32.ofNat (cols t) ∧ cols t ≤ 3) : ∃ xs ys, E_S pl wd c A O b x tc cols xs ys u0 ∧ 5 * xs.length ≤ w := by
  obtain ⟨xs, ys, S⟩ := k_S B hr Q h9 h11 tc5 tb
  refine ⟨xs, ys, S, ?_⟩
  obtain ⟨b1, b2, b3, b4, ⟨b5, b6, b7⟩, ⟨b8, -⟩, b9, xs', ys', a1, a2, a3, a4, a5, a6, a7⟩ := B
  obtain ⟨e1, e2⟩ := a7 p hr
  have hx : xs' = z_rng (b 9) (g_cnt u0 9) 9 := by
    rw [e1, h9]
    refine List.filter_eq_self.mpr (fun a ha => ?_)
    obtain ⟨i, i1, i2, i3⟩ := z_rng_mem.mp ha
    obtain ⟨s, sl, t, d1, d2, d3⟩ := k_src9 Q (a := i) (by omega) i2
    refine decide_eq_true ?_
    rw [i3, d3.2.2.2.2.2.1]
    exact d3.2.2.2.2.2.2.1
  have hxl : xs'.length = g_cnt u0 9 - b 9 := by
    rw [hx]
    unfold z_rng
    rw [List.length_map, List.length_range']
  have := S.2.2.2.1.1
  omega
theorem a_prep0 (H : z_H n kd) (NM : z_NM n kd wd vl nw nv) (hpl : ∀ i, i ≤ n → pl i ≤ 400) (hmo : ∀ i j, i ≤ j → j ≤ n → pl i ≤ pl j) {u : g_St} (E : E_0 u) (h64 : g_I u 64 0 = Int32.ofNat tc) (tc5 : tc ≤ 5) (tb : ∀ t, t < tc → ∃ r, g_AR u 29 t = some r ∧ g_al u r ∧ g_I u 5 r = Int32.ofNat (cols t) ∧ cols t ≤ 3) (r1 : g_cn u + 6510 ≤ 601024) (r2 : g_sn u + 195030 ≤ 7293034) {v : g_St} (hcut : f_Re_cut (some 2) (g_setI (g_setR u 320 0 none) 448 0 0) = some ((), v)) (htk : z_tkE v n kd pl wd) : (∀ q, z_rr kd vl = .inr q → q ≤ n) ∧ ∃ u', ((t_flt nw pl kd vl tc cols).isSome = true → f_E_prepare (some 0) u = some (.inr 0, u') ∧ g_R u' 320 0 = none) ∧ (t_flt nw pl kd vl tc cols = none → f_E_prepare (some 0) u = some (.inl (Int32.ofNat (z_qry kd vl).2.1.length), u') ∧ (t_205 (z_qry kd vl) → ∃ Q b lv so, g_R u' 320 0 = some Q ∧ t_P n kd pl nw nv wd vl (z_qry kd vl) tc cols lv ∧ Y_q u' Q b nw vl (z_qry kd vl) tc cols lv so)) ∧ g_I u' 384 0 = z_code (t_flt nw pl kd vl tc cols) ∧ g_I u' 66 2 = 0 ∧ g_I u' 448 0 = 0 ∧ g_cnt u' 5 = g_cnt u 5 ∧ g_cn u' ≤ g_cn u + 15 * n + 213 ∧ g_sn u' ≤ g_sn u + 450 * n + 6534 := by
  have n4 := H.2.1
  obtain ⟨s2, e2⟩ : ∃ s, s = g_setI (g_setR u 320 0 none) 448 0 0 := ⟨_, rfl⟩
  rw [← e2] at hcut
  have V2 : z_V false [320, 448] [] none u s2 := by rw [e2]; exact (z_V.re.pR none (Or.inl (by decide)) (by decide)).pI 0 (Or.inl (by decide))
  have E2 : E_0 s2 := E.ev V2 (by decide) (by decide) ⟨by decide, by decide, by decide⟩ (by decide)
  have c2 : g_cnt s2 = g_cnt u := by rw [e2]; rfl
  have cn2 : g_cn s2 = g_cn u ∧ g_sn s2 = g_sn u := by rw [e2]; exact ⟨rfl, rfl⟩
  have Vc : z_V true [] [130, 194, 258] none s2 v := v_Re_cut _ _ z_V.re hcut
  have Ev : E_0 v := E2.ev Vc (by decide) (by decide) ⟨by decide, by decide, by decide⟩ (by decide)
  obtain ⟨vc1, vc2, vc3⟩ := Vc.1.2.2.2 rfl
  obtain ⟨u5, w, c1, Z, B, w1, c5, qu⟩ := a_rdn (pl := pl) (vl := vl) H (fun i hi hk => z_wd0 NM ⟨hi, hk⟩) (fun i hi hk => (NM.2.2.2.2 i hi hk).1) hcut Ev.1 htk Ev.2.1 Ev.2.2.1 Ev.2.2.2.1 (by rw [vc2, cn2.1]; exact r1) (by rw [vc3, cn2.2]; exact r2)
  have ps : E_ps u5 n (z_rr kd vl) := B.2.2.1
  have le : ∀ q, z_rr kd vl = .inr q → q ≤ n := fun q hq => by rw [hq] at ps; exact ps.2.2
  refine ⟨le, ?_⟩
  have V5 := v_Re_read (u := s2) (some 2) s2 z_V.re c1
  have al0 : g_al s2 0 := E2.al.1
  have I5 : ∀ k, k ∈ [64, 448] → g_I u5 k 0 = g_I s2 k 0 := fun k hk => (V5.2.1 k 0 al0 (by
    have hk' : k = 64 ∨ k = 448 := by simpa using hk
    rcases hk' with e | e <;> (rw [e]; decide)) (by simp)).1
  have i64 : g_I u5 64 0 = Int32.ofNat tc := by
    rw [I5 _ (by decide), e2, x_I_I, if_neg (by decide)]; exact h64
  have i448 : g_I u5 448 0 = 0 := by rw [I5 _ (by decide), e2, x_Iss]
  have r320 : g_R u5 320 0 = none := by
    rw [(V5.2.1 320 0 al0 (by decide) (by simp)).2.2, e2]
    show g_R (g_setR u 320 0 none) 320 0 = none
    rw [x_R_R, if_pos ⟨rfl, rfl⟩]
  have cn5 : g_cn u5 ≤ g_cn u + 15 * n + 205 := by
    have := B.2.2.2.2.2.2.1.1
    have e : (z_cx v).2.2.2.2.1 = g_cn v + 5 := rfl
    rw [e, vc2, cn2.1] at this
    omega
  have sn5 : g_sn u5 ≤ g_sn u + 450 * n + 6022 := by
    have := B.2.2.2.2.2.2.1.2
    have e : (z_cx v).2.2.2.2.2 = g_sn v + 22 := rfl
    rw [e, vc3, cn2.2] at this
    omega
  have cnt5 : g_cnt u5 5 = g_cnt u 5 := by rw [c5, vc1, c2]
  have f128 := B.1.2.1
  have st : ∀ p4, f_Re_read (some 2) s2 = some (p4, u5) → f_E_prepare (some 0) u = if p4 = none then g_gR u5 128 (some 0) fun p11 => g_c (g_nn p11 (f_Re_stuckAt p11 u5)) fun i12 s13 => f_E_prepare_49 (some 0) p4 (some 0) i12 s13 else g_gR u5 192 (some 0) fun p6 => g_gR u5 0 (some 0) fun p7 => g_gI u5 64 (some 0) fun i8 => g_c (g_nn p6 (f_Ch_find p6 p4 p7 i8 u5)) fun i9 s10 => f_E_prepare_49 (some 0) p4 (some 0) i9 s10 := fun p4 hp => by
    unfold f_E_prepare
    rw [x_pR, t_b0a, ← e2, x_gR, E2.1.2.1, x_nn, hp, x_c]
  have bad : ∀ (s : g_St) (p : Option Nat) (y : Nat × Nat), 1 ≤ y.1 → y.1 ≤ 8 → y.2 ≤ 400 → g_R s 128 0 = some 2 → g_I s 448 0 = 0 → g_R s 320 0 = none → g_cnt s 5 = g_cnt u 5 → g_cn s ≤ g_cn u + 15 * n + 205 → g_sn s ≤ g_sn u + 450 * n + 6022 → f_E_prepare_49 (some 0) p (some 0) (z_code (some y)) s = some (.inr 0, g_bump (g_setI (g_setI s 384 0 (z_code (some y))) 66 2 0) 8 512) ∧ g_R (g_bump (g_setI (g_setI s 384 0 (z_code (some y))) 66 2 0) 8 512) 320 0 = none ∧ g_I (g_bump (g_setI (g_setI s 384 0 (z_code (some y))) 66 2 0) 8 512) 384 0 = z_code (some y) ∧ g_I (g_bump (g_setI (g_setI s 384 0 (z_code (some y))) 66 2 0) 8 512) 66 2 = 0 ∧ g_I (g_bump (g_setI (g_setI s 384 0 (z_code (some y))) 66 2 0) 8 512) 448 0 = 0 ∧ g_cnt (g_bump (g_setI (g_setI s 384 0 (z_code (some y))) 66 2 0) 8 512) 5 = g_cnt u 5 ∧ g_cn (g_bump (g_setI (g_setI s 384 0 (z_code (some y))) 66 2 0) 8 512) ≤ g_cn u + 15 * n + 213 ∧ g_sn (g_bump (g_setI (g_setI s 384 0 (z_code (some y))) 66 2 0) 8 512) ≤ g_sn u + 450 * n + 6534 := by
    intro s p y y1 y8 y4 h1 h2 h3 h4 h5 h6
    have ne : ¬ z_code (some y) = 0 := by
      show ¬ Int32.ofNat (y.1 + 10 * y.2) = Int32.ofNat 0
      rw [x_eq (by omega) (by omega)]
      omega
    refine ⟨a_p49b h1 p ne (by omega) (by omega), h3, ?_, ?_, ?_, h4, ?_, ?_⟩
    · show g_I (g_setI (g_setI s 384 0 (z_code (some y))) 66 2 0) 384 0 = _
      rw [x_I_I, if_neg (fun q => by have := q.1; omega), x_Iss]
    · exact x_Iss _ _ _ _
    · show g_I (g_setI (g_setI s 384 0 (z_code (some y))) 66 2 0) 448 0 = _
      rw [x_I_I, if_neg (fun q => by have := q.1; omega), x_I_I, if_neg (fun q => by have := q.1; omega)]
      exact h2
    · show g_cn s + 8 ≤ _
      omega
    · show g_sn s + 512 ≤ _
      omega
  cases hq : z_qed kd vl with
  | some q =>
    have ef : t_flt nw pl kd vl tc cols = some (1, pl q) := by unfold t_flt; rw [hq]
    rw [ef]
    have c1' : f_Re_read (some 2) s2 = some (none, u5) := by rw [c1, hq]
    have hq' : z_w4 kd (z_rr kd vl) = some q := hq
    obtain ⟨i322, qn⟩ : g_I u5 322 2 = Int32.ofNat q ∧ q ≤ n := by
      cases hr : z_rr kd vl with
      | inl y =>
        rw [hr] at hq' ps
        have e : y = q := Option.some.inj hq'
        rw [← e]
        exact ⟨ps.2.1, ps.2.2⟩
      | inr y =>
        rw [hr] at hq' ps
        unfold z_w4 at hq'
        simp only [] at hq'
        by_cases w : kd y = 38
        · rw [if_pos w] at hq'; cases hq'
        · rw [if_neg w] at hq'
          have e : y = q := Option.some.inj hq'
          rw [← e]
          exact ⟨ps.2.1, ps.2.2⟩
    have f194 : g_R u5 194 2 = some 20 ∧ g_ln u5 20 = 401 := B.1.1 (194, 2, 20, 401) (by decide)
    have sk : f_Re_stuckAt (some 2) u5 = some (z_code (some (1, pl q)), u5) := by
      unfold f_Re_stuckAt
      rw [x_gR, f194.1, x_gI, i322, x_aI (by omega) (by omega), (B.2.1 q qn).2.1, show (10 : Int32) = Int32.ofNat 10 from rfl, x_mul, show (1 : Int32) = Int32.ofNat 1 from rfl, x_add]
      rfl
    have p4 := hpl q qn
    obtain ⟨g1, g2⟩ := bad u5 none (1, pl q) (Nat.le_refl 1) (show (1 : Nat) ≤ 8 by decide) p4 f128 i448 r320 cnt5 cn5 sn5
    refine ⟨_, fun _ => ⟨?_, g2.1⟩, fun h => (by cases h), g2.2⟩
    rw [st none c1', if_pos rfl, x_gR, f128, x_nn, sk, x_c]
    exact g1
  | none =>
    have ef : t_flt nw pl kd vl tc cols = z_flt nw pl (z_qry kd vl) tc cols := by unfold t_flt; rw [hq]
    rw [ef]
    have c1' : f_Re_read (some 2) s2 = some (some (z_cx v).1, u5) := by rw [c1, hq]
    obtain ⟨q, W, hrr⟩ := z_qry_w hq
    have qn := le q hrr
    have Qu := qu hq
    have fx0 : g_R s2 0 0 = some 29 := (E2.1.1 (0, 0, 29, 5) (by decide)).1
    have ar := V5.arr E2.2.1 (by decide) (k0 := 0) (by decide) fx0 (by decide) (by decide)
    have tb5 : ∀ t, t < tc → ∃ r, g_AR u5 29 t = some r ∧ g_I u5 5 r = Int32.ofNat (cols t) ∧ cols t ≤ 3 := fun t ht => by
      obtain ⟨r, t1, t2, t3, t4⟩ := tb t ht
      refine ⟨r, ?_, ?_, t4⟩
      · rw [ar.2.2.2.2, e2]; exact t1
      · rw [(V5.2.1 5 r (by show _ < g_cnt s2 _; rw [c2]; exact t2) (by decide) (by simp)).1, e2, x_I_I, if_neg (fun z => by have := z.1; omega)]
        exact t3
    obtain ⟨xs, ys, S, xl⟩ := t_kS B hrr Qu rfl rfl tc5 tb5
    obtain ⟨a, v', k1, k2, k3, k4, k5⟩ := k_find NM H hpl S W qn
    have hw : ∀ k, k < (z_qry kd vl).2.1.length → ((z_qry kd vl).2.1.getD k z_pa0).2.1.length ≤ 3 := fun k hk => (Qu.2.2.1 k hk).2.2.2.2.1.1
    have q4 := Qu.1.2.2.1
    have ea : a = z_flt nw pl (z_qry kd vl) tc cols := k1.uniq (z_flt_mn hmo W qn hw q4) (fun y => Iff.rfl)
    rw [← ea]
    have g128 : g_R v' 128 0 = some 2 := by rw [k4.2.2 _ _ (by decide)]; exact f128
    have g448 : g_I v' 448 0 = 0 := by rw [k4.2.1 _ _ (by decide)]; exact i448
    have g320 : g_R v' 320 0 = none := by rw [k4.2.2 _ _ (by decide)]; exact r320
    have gc5 : g_cnt v' 5 = g_cnt u 5 := by rw [k4.1.1]; exact cnt5
    have gcn : g_cn v' ≤ g_cn u + 15 * n + 205 := by rw [k4.1.2.1]; exact cn5
    have gsn : g_sn v' ≤ g_sn u + 450 * n + 6022 := by rw [k4.1.2.2.1]; exact sn5
    have st' : f_E_prepare (some 0) u = f_E_prepare_49 (some 0) (some (z_cx v).1) (some 0) (z_code a) v' := by
      rw [st _ c1', if_neg (Option.some_ne_none _), x_gR, B.1.2.2.1, x_gR, (B.1.1 (0, 0, 29, 5) (by decide)).1, x_gI, i64, x_nn, k3, x_c]
    cases a with
    | some y =>
      have hy := k2 y rfl
      have yr : 2 ≤ y.1 ∧ y.1 ≤ 8 := k1.1.1
      obtain ⟨g1, g2⟩ := bad v' (some (z_cx v).1) y (by omega) yr.2 hy g128 g448 g320 gc5 gcn gsn
      exact ⟨_, fun _ => ⟨st'.trans g1, g2.1⟩, fun h => (by cases h), g2.2⟩
    | none =>
      have gd := a_p49g g128 Z.1
      obtain ⟨D, LV⟩ := k5 rfl
      have i70 : g_I v' 70 (z_cx v).1 = Int32.ofNat (z_qry kd vl).2.1.length := by rw [k4.2.1 _ _ (by decide)]; exact Qu.1.2.1
      rw [i70] at gd
      refine ⟨_, fun h => (by cases h), fun _ => ⟨st'.trans gd, fun h205 => ?_⟩, ?_, ?_, ?_, gc5, ?_, ?_⟩
      · have nf : t_nf nw pl (z_qry kd vl) tc cols := fun num y h2 h8 hf => k1 (num, y) ⟨⟨h2, h8⟩, hf⟩
        have C : t_C n q kd pl nw nv wd vl (z_cx v) (g_cnt v 24 * 64 + 24) (g_cnt v 26 * 64 + 26) (z_bq v) (z_qry kd vl) tc cols xs ys u5 v' := ⟨NM, nf, S, W, qn, D, LV, h205⟩
        have o1 := t_own1 hq
        have Y := t_cyq C Z.1 o1 (by omega)
        refine ⟨(z_cx v).1, z_bq v, t_lv u5 v' (z_bq v), t_so u5 (z_bq v) (z_qry kd vl), ?_, ⟨NM, nf, ⟨q, W, qn⟩, q4, hw, C.hcl, C.h3, t_clv C, o1⟩, ?_⟩
        · show g_R (g_setR _ 320 0 (some (z_cx v).1)) 320 0 = _
          rw [x_R_R, if_pos ⟨rfl, rfl⟩]
        · exact Y.ag (((E_ag.re.pI (Or.inr (by decide)) _).pI (Or.inr (by decide)) _).pR (Or.inr (by decide)) _)
      · show g_I (g_setI (g_setI v' 384 0 0) 66 2 0) 384 0 = 0
        rw [x_I_I, if_neg (fun q => by have := q.1; omega), x_Iss]
      · show g_I (g_setI (g_setI v' 384 0 0) 66 2 0) 66 2 = 0
        exact x_Iss _ _ _ _
      · show g_I (g_setI (g_setI v' 384 0 0) 66 2 0) 448 0 = 0
        rw [x_I_I, if_neg (fun q => by have := q.1; omega), x_I_I, if_neg (fun q => by have := q.1; omega)]
        exact g448
      · show g_cn v' ≤ _
        omega
      · show g_sn v' ≤ _
        omega
end
