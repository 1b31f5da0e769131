/-! THE QUERY AS THE RUN HAS IT: selections of the engine, whole -/
section
variable {n q : Nat} {kd pl nw nv : Nat → Nat} {wd vl : Nat → Int64} {c : z_Cx} {A O : Nat} {b : Nat → Nat} {x : z_Qu} {tc : Nat} {cols : Nat → Nat} {xs ys : List Nat} {u v : g_St}
theorem E_srO_lo {sel k : Nat} (hk : k < 3) (top : Option Nat) : E_srO u sel top (some k) = E_srO u sel none (some k) := by
  unfold E_srO
  simp only []
  rw [if_neg (by omega), if_neg (by omega)]
theorem t_so_is (Q : E_qu pl wd c u A O b x) {s : Nat} (hs : s < (z_sels x).length) : ∃ j A27, b 9 ≤ j ∧ g_R u 392 ((b 8 + s) * 64 + 8) = some (A27 * 64 + 27) ∧ g_ln u (A27 * 64 + 27) = 3 ∧ (∀ k, k < (z_sv x s).2.2.2.1.length → t_so u b x s k = some ((j + k) * 64 + 9) ∧ g_AR u (A27 * 64 + 27) k = some ((j + k) * 64 + 9) ∧ j + k < g_cnt u 9 ∧ E_so pl wd u (j + k) (some ((b 8 + s) * 64 + 8)) (Int32.ofNat k) ((z_sv x s).2.2.2.1.getD k 0)) ∧ ∀ m co, t_cn u b x s m co → ∀ z, (z_sv x s).2.2.2.2.getD m z_co0 = .inr z → g_R u 202 co = some ((j + (z_sv x s).2.2.2.1.length + z_nsc ((z_sv x s).2.2.2.2.take m)) * 64 + 9) := by
  obtain ⟨i, k, j, s1, s2, s3⟩ := k_sel Q hs
  obtain ⟨e1, e2, e3, e4, e5, e6, a26, a23, a27, a28, e7, e8, e9, e10, e11, e12⟩ := s3
  refine ⟨j, a27, s2.2.2, e8.2.2.1, e9.2.2.1, fun k hk => ?_, fun m co h z hz => ?_⟩
  · obtain ⟨g1, g2, g3⟩ := e11 k hk
    refine ⟨?_, g1, g2, g3⟩
    unfold t_so
    rw [if_pos hk]
    unfold E_srO
    simp only []
    have := e6.2.1
    rw [if_neg (by omega), e8.2.2.1]
    exact g1
  · obtain ⟨hm, B, h1, h2⟩ := h
    rw [e8.2.2.2] at h1
    cases h1
    obtain ⟨g1, g2, g3, g4⟩ := e12 m hm
    rw [g1] at h2
    cases h2
    rw [hz] at g4
    exact g4.2.1
theorem t_so_no {s k : Nat} (hk : (z_sv x s).2.2.2.1.length ≤ k) : t_so u b x s k = none := by
  unfold t_so
  rw [if_neg (by omega)]
theorem t_hso0 (C : t_C n q kd pl nw nv wd vl c A O b x tc cols xs ys u v) {s : Nat} (hs : s < (z_sels x).length) (top : Option Nat) : t_hso u b x s none top (t_so u b x s) := by
  intro sl h
  have h3 := C.h3 s hs
  obtain ⟨j, a, -, -, -, hj, -⟩ := t_so_is C.2.2.1.1 hs
  rcases h with h | ⟨-, w, h⟩
  · obtain ⟨g1, g2, g3, g4⟩ := hj sl h
    refine ⟨_, g1, ?_⟩
    rw [E_srO_lo (by omega)]
    have g1' := g1
    unfold t_so at g1'
    rw [if_pos h] at g1'
    exact g1'
  · cases h
theorem t_ccd (C : t_C n q kd pl nw nv wd vl c A O b x tc cols xs ys u v) {s m co : Nat} (hs : s < (z_sels x).length) (h : t_cn u b x s m co) : X_cd v (t_so u b x s) co (t_co nw vl x tc cols (z_sv x s).2.2.2.1 ((z_sv x s).2.2.2.2.getD m z_co0)) ∧ ∀ z : Nat × List z_Bs, (z_sv x s).2.2.2.2.getD m z_co0 = .inr z → ∀ r, g_R v 202 co = some r → X_src v x.2.1.length tc r (t_mn nw x tc z.1) := by
  have h3 := C.h3 s hs
  have V := C.2.2.2.2.2.1.1
  have h205 := C.2.2.2.2.2.2.2 s hs
  obtain ⟨k, i, j, k1, k2, g1, g2, g3⟩ := t_cn_at C.2.2.1.1 hs h
  obtain ⟨j0, a27, j1, j2, j2', j3, j4⟩ := t_so_is C.2.2.1.1 hs
  have j4 := j4 m co h
  have mem := z_getD_m (d := z_co0) h.1
  have hz0 := t_hso0 C hs (some co)
  generalize (z_sv x s).2.2.2.2.getD m z_co0 = cc at g3 mem j4 ⊢
  cases cc with
  | inl bb =>
    obtain ⟨f1, f2⟩ := g3
    refine ⟨⟨by omega, by rw [V.R (by decide), k1]; exact f1, ?_⟩, fun z e => by cases e⟩
    rw [k1] at hz0 ⊢
    exact t_ccp (wi := none) C hs (fun e he => Or.inr (Or.inl ⟨bb, mem, rfl, he⟩)) (h205.2.1 bb mem) k2.1 f2 (Or.inr ⟨_, rfl, f1, g2⟩) hz0
  | inr z =>
    obtain ⟨-, f2, f3, f4, ⟨a, a1, a2, a3, a4, a5⟩, f6, f7, f5⟩ := g3
    have e4 := j4 z rfl
    have ej : j = j0 + (z_sv x s).2.2.2.1.length + z_nsc ((z_sv x s).2.2.2.2.take m) := by
      rw [k1, f2] at e4
      have := Option.some.inj e4
      omega
    have src : X_src v x.2.1.length tc (j * 64 + 9) (t_mn nw x tc z.1) := t_csrc C hs (sl := none) ⟨_, mem, rfl⟩ k2.2 f3 f4
    refine ⟨⟨by omega, j * 64 + 9, a * 64 + 28, by omega, fun k' e => ?_, by omega, by rw [V.R (by decide), k1]; exact f2, by rw [V.R (by decide), k1]; exact a3, by rw [V.ln]; exact a4, ?_, ?_, fun l hl => ?_⟩, fun z' e r hr => ?_⟩
    · by_cases hk : k' < (z_sv x s).2.2.2.1.length
      · rw [(j3 k' hk).1] at e
        have := Option.some.inj e
        omega
      · rw [t_so_no (by omega)] at e
        cases e
    · rw [V.I (by decide), k1]
      show _ = Int32.ofNat (List.map _ z.2).length
      rw [List.length_map]; exact f6
    · show (List.map _ z.2).length ≤ 3
      rw [List.length_map]; exact f7
    · have hl' : l < z.2.length := by
        have : l < (List.map (t_bs nw vl x tc cols (z_sv x s).2.2.2.1 (some z.1)) z.2).length := hl
        rw [List.length_map] at this
        exact this
      refine ⟨(k + 1 + l) * 64 + 10, by omega, by rw [V.AR]; exact a5 l hl', ?_⟩
      show X_cp v _ _ ((List.map (t_bs nw vl x tc cols (z_sv x s).2.2.2.1 (some z.1)) z.2).getD l r_cp0)
      rw [t_gd _ hl' z_bs0]
      have mb := z_getD_m (d := z_bs0) hl'
      refine t_ccp (wi := some z.1) C hs (fun e he => Or.inr (Or.inr ⟨z, mem, rfl, _, mb, he⟩)) (h205.2.2 z mem _ mb) (by omega) (f5 l hl') ⟨_, _, rfl, f2, k2.2, ⟨f3, g2⟩, f4⟩ (fun sl hsl => ?_)
      by_cases e3 : sl = 3
      · refine ⟨j * 64 + 9, by unfold r_so; rw [if_pos e3], ?_⟩
        rw [e3]
        exact f2
      · rcases hsl with g | ⟨g, -⟩
        · obtain ⟨r, r1, r2⟩ := t_hso0 C hs (some (k * 64 + 10)) sl (Or.inl g)
          exact ⟨r, by unfold r_so; rw [if_neg e3]; exact r1, r2⟩
        · exact absurd g e3
    · cases e
      rw [V.R (by decide), k1, f2] at hr
      cases hr
      exact src
theorem t_csel (C : t_C n q kd pl nw nv wd vl c A O b x tc cols xs ys u v) {s : Nat} (hs : s < (z_sels x).length) (wl : r_uit (fun k j => k < (t_ms nw x tc (z_sv x s).2.2.2.1).length ∧ r_V (t_Xs nw x) cols (r_ml (t_ms nw x tc (z_sv x s).2.2.2.1) k) j ∧ j ≤ 3) (t_its nw vl x tc cols (z_sv x s).2.2.2.1 (z_sv x s).2.2.1)) (wc : ∀ i, i < (z_sv x s).2.2.2.2.length → r_ucd (t_Xs nw x) cols (t_ms nw x tc (z_sv x s).2.2.2.1) (t_lv u v b s i) (t_co nw vl x tc cols (z_sv x s).2.2.2.1 ((z_sv x s).2.2.2.2.getD i z_co0))) : X_sel v x.2.1.length tc (t_Xs nw x) cols (t_so u b x s) ((b 8 + s) * 64 + 8) (min (z_sv x s).1 x.2.1.length) (t_sel nw vl x tc cols (t_lv u v b s) (z_sv x s).2).1 (t_sel nw vl x tc cols (t_lv u v b s) (z_sv x s).2).2.1 (t_sel nw vl x tc cols (t_lv u v b s) (z_sv x s).2).2.2.1 (t_sel nw vl x tc cols (t_lv u v b s) (z_sv x s).2).2.2.2.1 (t_sel nw vl x tc cols (t_lv u v b s) (z_sv x s).2).2.2.2.2 := by
  have h3 := C.h3 s hs
  have V := C.2.2.2.2.2.1.1
  have h205 := C.2.2.2.2.2.2.2 s hs
  have q4 := C.2.2.1.1.1.2.2.1
  obtain ⟨j0, a27', j1, j2, j2', j3, j4⟩ := t_so_is C.2.2.1.1 hs
  have hz0 := t_hso0 C hs none
  have ccd := fun {m co : Nat} (h : t_cn u b x s m co) => t_ccd C hs h
  have clv := fun {m co : Nat} (h : t_cn u b x s m co) => t_clv1 C hs h
  obtain ⟨i, k, j, s1, s2, s3⟩ := k_sel C.2.2.1.1 hs
  obtain ⟨e1, e2, e3, e4, e5, e6, a26, a23, a27, a28, e7, e8, e9, e10, e11, e12⟩ := s3
  have l1 : (t_its nw vl x tc cols (z_sv x s).2.2.2.1 (z_sv x s).2.2.1).length = (z_sv x s).2.2.1.length := List.length_map _
  have l2 : (t_ms nw x tc (z_sv x s).2.2.2.1).length = (z_sv x s).2.2.2.1.length := List.length_map _
  have l3 : ((z_sv x s).2.2.2.2.map (t_co nw vl x tc cols (z_sv x s).2.2.2.1)).length = (z_sv x s).2.2.2.2.length := List.length_map _
  have gd : ∀ j, j < (z_sv x s).2.2.1.length → (t_its nw vl x tc cols (z_sv x s).2.2.2.1 (z_sv x s).2.2.1).getD j r_it0 = (((z_sv x s).2.2.1.getD j z_it0).1, t_ex nw vl x tc cols (z_sv x s).2.2.2.1 none ((z_sv x s).2.2.1.getD j z_it0).2) := fun j hj => t_gd (fun i : z_It => (i.1, t_ex nw vl x tc cols (z_sv x s).2.2.2.1 none i.2)) hj z_it0 r_it0
  have cn : ∀ m, m < (z_sv x s).2.2.2.2.length → ∀ co, g_AR u (a28 * 64 + 28) m = some co → t_cn u b x s m co := fun m hm co hco => ⟨hm, _, e8.2.2.2, hco⟩
  show X_sel v x.2.1.length tc (t_Xs nw x) cols (t_so u b x s) ((b 8 + s) * 64 + 8) (min (z_sv x s).1 x.2.1.length) (t_its nw vl x tc cols (z_sv x s).2.2.2.1 (z_sv x s).2.2.1) (t_ms nw x tc (z_sv x s).2.2.2.1) ((z_sv x s).2.2.2.2.map (t_co nw vl x tc cols (z_sv x s).2.2.2.1)) (t_lv u v b s) (z_rk (z_sv x s).2.2.1)
  refine ⟨⟨by omega, ?_, by rw [l2]; exact h3, ?_, by rw [l3]; exact e6.2.2, by rw [V.I (by decide)]; exact e5.2.2.1, by rw [V.I (by decide)]; exact e2, by omega, ?_⟩, ⟨⟨by omega, ?_, by rw [l1]; exact e6.1, a23 * 64 + 23, a26 * 64 + 26, by rw [V.R (by decide)]; exact e8.2.1, by omega, by rw [V.ln]; exact e9.2.1, by rw [V.R (by decide)]; exact e8.1, by omega, by rw [V.ln]; exact e9.1, fun m hm => ?_⟩, wl⟩, ⟨a27' * 64 + 27, by rw [V.R (by decide)]; exact j2, by omega, by rw [V.ln]; exact j2', fun k hk => ?_⟩, fun k hk => t_so_no (by rw [l2] at hk; exact hk), fun k k' r hk hk' => ?_, a28 * 64 + 28, by rw [V.R (by decide)]; exact e8.2.2.2, by omega, by rw [V.ln]; exact e9.2.2.2, fun m hm => ?_, fun m m' co co' r hm hm' h1 h2 r1 r2 => ?_⟩
  · rw [l2, V.I (by decide)]; exact e5.2.2.2.1
  · rw [l3, V.I (by decide)]; exact e5.2.2.2.2
  · rw [t_gcz, V.I (by decide)]; exact e5.2.1
  · rw [l1, V.I (by decide)]; exact e5.1
  · rw [l1] at hm
    rw [gd m hm, V.AR]
    obtain ⟨f1, f2, f3⟩ := e10 m hm
    have mem := z_getD_m (d := z_it0) hm
    refine ⟨?_, fun h20 => ?_⟩
    · rcases f2 with f2 | ⟨f2, f2', f2''⟩
      · exact Or.inl f2
      · exact Or.inr ⟨⟨f2, f2'⟩, f2''⟩
    · rcases f3 with ⟨g1, g2⟩ | ⟨g1, g2, g3, g4⟩
      · exact absurd g1 h20
      · exact ⟨_, g3, t_cex (wi := none) C hs (fun e he => Or.inl ⟨rfl, _, mem, he⟩) g2 (h205.1 _ mem) (by omega) f1 g4 (Or.inl rfl) hz0⟩
  · rw [l2] at hk
    obtain ⟨g1, g2, g3, g4⟩ := j3 k hk
    refine ⟨_, g1, by rw [V.AR]; exact g2, ?_⟩
    rw [t_ml hk]
    exact t_csrc C hs (sl := some k) ⟨hk, rfl⟩ (by omega) g3 g4
  · by_cases c1 : k < (z_sv x s).2.2.2.1.length
    · by_cases c2 : k' < (z_sv x s).2.2.2.1.length
      · rw [(j3 k c1).1] at hk
        rw [(j3 k' c2).1] at hk'
        have a1 := Option.some.inj hk
        have a2 := Option.some.inj hk'
        omega
      · rw [t_so_no (by omega)] at hk'; cases hk'
    · rw [t_so_no (by omega)] at hk; cases hk
  · rw [l3] at hm
    obtain ⟨g1, g2⟩ := e12 m hm
    have hcn := cn m hm _ g1
    obtain ⟨c1, c2⟩ := ccd hcn
    obtain ⟨v1, v2⟩ := clv hcn
    refine ⟨_, by rw [V.AR]; exact g1, ?_, v1, by rw [l2]; exact v2, ?_, fun z hz r hr => ?_⟩
    · rw [t_gd _ hm z_co0]; exact c1
    · rw [t_gd _ hm z_co0]; exact wc m hm
    · obtain ⟨z0, z1, z2, z3⟩ := t_cd_inr hm hz
      rw [z3]
      exact c2 z0 z2 r hr
  · rw [l3] at hm hm'
    rw [V.AR] at h1 h2
    have n1 := cn m hm co h1
    have n2 := cn m' hm' co' h2
    rw [V.R (by decide)] at r1 r2
    have is : ∀ m co, t_cn u b x s m co → g_R u 202 co = some r → ∃ z, (z_sv x s).2.2.2.2.getD m z_co0 = .inr z := fun m co hcn hr => by
      obtain ⟨k', i', j', k1, k2, g1, g2, g3⟩ := t_cn_at C.2.2.1.1 hs hcn
      cases hc : (z_sv x s).2.2.2.2.getD m z_co0 with
      | inr z => exact ⟨z, rfl⟩
      | inl bb =>
        rw [hc] at g3
        rw [k1, g3.1] at hr
        cases hr
    obtain ⟨z, hz⟩ := is m co n1 r1
    obtain ⟨z', hz'⟩ := is m' co' n2 r2
    have p1 := j4 m co n1 z hz
    have p2 := j4 m' co' n2 z' hz'
    rw [r1] at p1
    rw [r2] at p2
    have q1 := Option.some.inj p1
    have q2 := Option.some.inj p2
    have ls : ∀ m m' z, m < m' → m' < (z_sv x s).2.2.2.2.length → (z_sv x s).2.2.2.2.getD m z_co0 = .inr z → z_nsc ((z_sv x s).2.2.2.2.take m) + 1 ≤ z_nsc ((z_sv x s).2.2.2.2.take m') := fun m m' z l1 l2 hz => by
      have := z_S_lt z_nso z_co0 (z_sv x s).2.2.2.2 m m' l1 (by omega)
      rw [hz] at this
      exact this
    by_cases e : m = m'
    · exact e
    · exfalso
      by_cases l : m < m'
      · have := ls m m' z l hm' hz
        omega
      · have := ls m' m z' (by omega) hm hz'
        omega
end
