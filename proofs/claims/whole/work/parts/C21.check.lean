/-! THE ENGINE'S CHECK, WHOLE -/
section
variable {n q : Nat} {kd pl nw nv : Nat → Nat} {wd vl : Nat → Int64} {c : z_Cx} {A O : Nat} {b : Nat → Nat} {x : z_Qu} {tc : Nat} {cols : Nat → Nat} {xs ys : List Nat} {u0 : g_St}
theorem z_rng_mem {b c t a : Nat} : a ∈ z_rng b c t ↔ ∃ i, b ≤ i ∧ i < c ∧ a = i * 64 + t := by
  unfold z_rng
  rw [List.mem_map]
  constructor
  · rintro ⟨i, h1, h2⟩
    obtain ⟨h3, h4⟩ := List.mem_range'_1.mp h1
    exact ⟨i, h3, by omega, h2.symm⟩
  · rintro ⟨i, h1, h2, h3⟩
    exact ⟨i, List.mem_range'_1.mpr ⟨h1, by omega⟩, h3.symm⟩
theorem k_S {r : z_P} {w p : Nat} (B : E_b n kd pl wd c u0 r w) (hr : r = .inr p) (Q : E_qu pl wd c u0 A O b x) (h9 : b 9 = c.2.2.2.1 9) (h11 : b 11 = c.2.2.2.1 11) (tc5 : tc ≤ 5) (tb : ∀ t, t < tc → ∃ r, g_AR u0 29 t = some r ∧ g_I u0 5 r = Int32.ofNat (cols t) ∧ cols t ≤ 3) : ∃ xs ys, E_S pl wd c A O b x tc cols xs ys u0 := by
  obtain ⟨b1, b2, b3, b4, ⟨b5, b6, b7⟩, ⟨b8, -⟩, b9, xs, ys, a1, a2, a3, a4, a5, a6, a7⟩ := B
  obtain ⟨e1, e2⟩ := a7 p hr
  have hx : xs = z_rng (b 9) (g_cnt u0 9) 9 := by
    rw [e1, h9]
    refine List.filter_eq_self.mpr (fun a ha => ?_)
    obtain ⟨i, i1, i2, i3⟩ := z_rng_mem.mp ha
    obtain ⟨s, sl, t, d1, d2, d3⟩ := k_src9 Q (a := i) (by omega) i2
    refine decide_eq_true ?_
    rw [i3, d3.2.2.2.2.2.1]
    exact d3.2.2.2.2.2.2.1
  have le : b 9 ≤ g_cnt u0 9 := by rw [h9]; exact b8 9
  have hxl : xs.length = g_cnt u0 9 - b 9 := by
    rw [hx]
    unfold z_rng
    rw [List.length_map, List.length_range']
  refine ⟨xs, ys, Q, ⟨b6, b7⟩, ⟨a1, a2⟩, ⟨by omega, fun j hj => ?_⟩, fun a => ?_, (e_R b1 0 rfl).2, tc5, tb⟩
  · rw [hx]
    unfold z_rng
    rw [List.getD_eq_getElem?_getD, List.getElem?_map, List.getElem?_range' (by omega)]
    show (b 9 + 1 * j) * 64 + 9 = _
    rw [Nat.one_mul]
  · rw [e2, List.mem_filter, z_rng_mem, ← h11]
    constructor
    · rintro ⟨⟨i, i1, i2, i3⟩, i4⟩
      exact ⟨i, i1, i2, i3, of_decide_eq_true i4⟩
    · rintro ⟨i, i1, i2, i3, i4⟩
      exact ⟨⟨i, i1, i2, i3⟩, decide_eq_true i4⟩
theorem k_find (NM : z_NM n kd wd vl nw nv) (H : z_H n kd) (hpl : ∀ i, i ≤ n → pl i ≤ 400) (S : E_S pl wd c A O b x tc cols xs ys u0) (W : z_wqu kd q x) (hq : q ≤ n) : ∃ (a : Option (Nat × Nat)) (v : g_St), q_mn a (fun z => (2 ≤ z.1 ∧ z.1 ≤ 8) ∧ z_fl nw pl x tc cols z.1 z.2) ∧ (∀ y, a = some y → y.2 ≤ 400) ∧ f_Ch_find (some 3) (some c.1) (some 29) (Int32.ofNat tc) u0 = some (z_code a, v) ∧ E_fk z_KI z_KR u0 v ∧ (a = none → E_D n kd pl nw wd c b x tc cols xs ys u0 v ∧ E_lvN n kd pl nw wd b x ys ys.length u0 v) := by
  obtain ⟨s3, e3⟩ : ∃ s3, s3 = g_setI (g_setR (g_setR u0 3 3 (some c.1)) 67 3 (some 29)) 131 3 (Int32.ofNat tc) := ⟨_, rfl⟩
  have F3 : E_fk [131] [3, 67] u0 s3 := by rw [e3]; exact ((E_fk.re.pR (by decide) _ _).pR (by decide) _ _).pI (by decide) _ _
  have V3 : E_V c tc u0 s3 := by
    refine ⟨F3.mono (by decide) (by decide), ?_, ?_, ?_⟩
    · rw [e3]; show g_R (g_setR (g_setR u0 3 3 (some c.1)) 67 3 (some 29)) 3 3 = _
      rw [x_R_R, if_neg (fun q => by have := q.1; omega), x_R_R, if_pos ⟨rfl, rfl⟩]
    · rw [e3]; show g_R (g_setR (g_setR u0 3 3 (some c.1)) 67 3 (some 29)) 67 3 = _
      rw [x_R_R, if_pos ⟨rfl, rfl⟩]
    · rw [e3, x_Iss]
  have I3 : ∀ k a, k ≠ 131 → g_I s3 k a = g_I u0 k a := fun k a hk => F3.2.1 k a (by simpa using hk)
  have Q := S.1
  obtain ⟨v5, a1, a2, a3, a4⟩ := k_ns NM S W hq V3 (fun a h1 h2 => by
    obtain ⟨s, sl, t, d1, d2, d3⟩ := k_src9 Q h1 h2
    rw [I3 _ _ (by decide), I3 _ _ (by decide)]
    exact ⟨d3.2.2.2.2.2.2.2.1, d3.2.2.2.2.2.2.2.2⟩)
  obtain ⟨v7, b1, b2, b3, b4, b5⟩ := k_nc NM S W hq a2 a4 (fun a => (a3.2.2 523 a (by simp)).trans (F3.2.2 523 a (by decide)))
  have N7 := a4.fk b3 (by decide) (by decide)
  have k7 : ∀ k a, k ∉ [131, 393, 457, 587, 1031, 1095] → g_I v7 k a = g_I u0 k a := fun k a hk => by
    rw [b3.2.1 k a (fun h => hk (by revert h; simp; omega)), a3.2.1 k a (fun h => hk (by revert h; simp; omega)), I3 k a (fun h => hk (by rw [h]; simp))]
  obtain ⟨v9, c1, c2, c3, c4, c5⟩ := k_nd NM S W hq b2 N7 (fun k hk => ⟨by rw [k7 _ _ (by decide)]; exact (Q.2.2.1 k hk).2.2.2.1.1, by show (0 : Nat) < 16; decide⟩)
  have k9 : ∀ k a, k ∉ [131, 393, 457, 587, 1031, 1095, 775, 967, 839] → g_I v9 k a = g_I u0 k a := fun k a hk => by
    rw [c3.2.1 k a (fun h => hk (by revert h; simp; omega)), k7 k a (fun h => hk (by revert h; simp; omega))]
  obtain ⟨v11, d1, d2, d3, d4⟩ := k_oc S c2 c4 c5 (fun k hk => by rw [k9 _ _ (by decide)]; exact (Q.2.2.1 k hk).2.2.2.1.2.2.1) (by rw [k9 _ _ (by decide)]; exact Q.1.2.2.2)
  have N11 := (N7.fk c3 (by decide) (by decide)).fk d3 (by decide) (by decide)
  have P11 : E_np2 b x.2.1.length (z_rch nw x tc) x.2.1.length v11 := fun k hk => by rw [d3.2.1 _ _ (by decide), d3.2.1 _ _ (by decide)]; exact c5 k hk
  have k11 : ∀ k a, k ∉ [131, 393, 457, 587, 1031, 1095, 775, 967, 839, 903, 454] → g_I v11 k a = g_I u0 k a := fun k a hk => by
    rw [d3.2.1 k a (fun h => hk (by revert h; simp; omega)), k9 k a (fun h => hk (by revert h; simp; omega))]
  obtain ⟨v13, f1, f2, f3, f4⟩ := k_cg NM S W hq d2 N11 P11 d4 (fun s hs => by
    obtain ⟨i, k, j, g1, g2, g3⟩ := k_sel Q hs
    rw [k11 _ _ (by decide)]
    exact g3.2.2.2.1)
  have k13 : ∀ k a, k ∉ [131, 393, 457, 587, 1031, 1095, 775, 967, 839, 903, 454, 648] → g_I v13 k a = g_I u0 k a := fun k a hk => by
    rw [f3.2.1 k a (fun h => hk (by revert h; simp; omega)), k11 k a (fun h => hk (by revert h; simp; omega))]
  have R13 : ∀ k a, g_R v13 k a = g_R v7 k a := fun k a => by rw [f3.2.2 k a (by simp), d3.2.2 k a (by simp), c3.2.2 k a (by simp)]
  have D13 : E_D n kd pl nw wd c b x tc cols xs ys u0 v13 := by
    refine ⟨f2, N11.fk f3 (by decide) (by decide), ⟨fun a ha s wi top t T => ?_, fun a ha => ?_⟩, fun m hm => ?_, fun k hk => ?_, fun k hk => ?_, ⟨fun k hk => ?_, ?_⟩, f4⟩
    · rw [R13, f3.2.1 _ _ (by decide), d3.2.1 _ _ (by decide), c3.2.1 _ _ (by decide)]; exact b4.1 a ha s wi top t T
    · rw [R13]; exact b4.2 a ha
    · rw [f3.2.1 _ _ (by decide), d3.2.1 _ _ (by decide), c3.2.1 _ _ (by decide), f3.2.1 _ _ (by decide), d3.2.1 _ _ (by decide), c3.2.1 _ _ (by decide)]; exact b5 m hm
    · rw [f3.2.1 _ _ (by decide), d3.2.1 _ _ (by decide)]; exact c4 k hk
    · rw [f3.2.1 _ _ (by decide), f3.2.1 _ _ (by decide)]; exact P11 k hk
    · rw [f3.2.1 _ _ (by decide)]; exact d4.1 k hk
    · rw [f3.2.1 _ _ (by decide)]; exact d4.2
  obtain ⟨a, s', g1, g2, g3, g4⟩ := k_f38 NM H hpl S W hq D13 7 2 200000 v13 (by omega) (by omega) (by omega) E_fk.re (fun k y h1 h2 => by omega)
  have st : f_Ch_find (some 3) (some c.1) (some 29) (Int32.ofNat tc) u0 = f_Ch_find_38 200000 (some 3) (Int32.ofNat 2) v13 := by
    unfold f_Ch_find
    rw [x_pR, x_pR, x_pI, ← e3, x_nn, a1, x_c, x_nn, b1, x_c, x_nn, c1, x_c, x_nn, d1, x_c, x_nn, f1, x_c]
    rfl
  have Vs := (D13.fk g2.w195).1
  cases a with
  | some y =>
    obtain ⟨h1, h2⟩ := g3 y rfl
    exact ⟨some y, s', g1, fun y' e => (by cases e; exact h2), st.trans h1, Vs.1, fun e => by cases e⟩
  | none =>
    have Ds := D13.fk g2.w195
    obtain ⟨v', l1, l2, l3⟩ := k_lv S W hq Ds (fun k => by rw [g2.2.1 _ _ (by decide), k13 _ _ (by decide)])
    have D' := Ds.fk (l2.mono (by decide) (by decide) : E_fk [195, 394] [] s' v')
    refine ⟨none, v', g1, fun y' e => (by cases e), ?_, D'.1.1, fun _ => ⟨D', l3⟩⟩
    rw [st, g4 rfl, l1, x_c]
    rfl
end
