/-! RUNNING (reference): the conditions of a selection -/
def M_vcd (w : g_St) (Xs : Nat → r_Pt) (mc : Nat → Nat → Nat) (c : Nat) : r_Cd → Prop
  | .inl b => M_vcp w mc c b
  | .inr z => M_vcn w Xs mc c z
def r_ux (np nt : Nat) (Xs : Nat → r_Pt) (tw : Nat → Nat) (D : Nat → Nat → Prop) : r_Cd → Prop
  | .inl b => r_ucp (fun k j => k < 3 ∧ D k j) b
  | .inr z => M_ok np nt z.1 ∧ ∀ b ∈ z.2, r_ucp (fun k j => (k < 3 ∧ D k j) ∨ (k = 3 ∧ r_W Xs tw z.1 j)) b
def M_cds (w : g_St) (Xs : Nat → r_Pt) (mc : Nat → Nat → Nat) (s : Nat) (cds : List r_Cd) : Prop := s < 17 ∧ cds.length ≤ 6 ∧ g_AI w 2388 s = Int32.ofNat cds.length ∧ ∀ i, i < cds.length → ∃ c, g_AI w 2452 (6 * s + i) = Int32.ofNat c ∧ M_vcd w Xs mc c (cds.getD i r_cd0)
theorem M_cds.mv {u w : g_St} (h : M_K u w) {Xs : Nat → r_Pt} {mc : Nat → Nat → Nat} {s : Nat} {cds : List r_Cd} (q : M_cds u Xs mc s cds) : M_cds w Xs mc s cds := by
  obtain ⟨q1, q2, q3, q4⟩ := q
  refine ⟨q1, q2, by rw [h.ai (a := 2388) (by decide)]; exact q3, fun i hi => ?_⟩
  obtain ⟨c, c1, c2⟩ := q4 i hi
  refine ⟨c, by rw [h.ai (a := 2452) (by decide)]; exact c1, ?_⟩
  cases hc : cds.getD i r_cd0 with
  | inl b => rw [hc] at c2; exact M_vcp.mv h c2
  | inr z => rw [hc] at c2; exact M_vcn.mv h c2
def r_cda (tb : (Nat ⊕ Nat) → List (Nat → Int64)) (cds : List r_Cd) (env : Nat → Nat → Int64) : Bool := (List.range cds.length).all fun i => r_cd tb env (cds.getD i r_cd0)
section
variable {w : g_St} {np nt : Nat} {Xs : Nat → r_Pt} {tw : Nat → Nat} {tbl : Nat → List (Nat → Int64)} {P : M_Pl} {mc : Nat → Nat → Nat} {s : Nat} {cds : List r_Cd}
theorem m_pass (S : M_st w np nt Xs tw tbl P) (h : M_cds w Xs mc s cds) {env : Nat → Nat → Int64} {D : Nat → Nat → Prop} (hu : ∀ i, i < cds.length → r_ux np nt Xs tw D (cds.getD i r_cd0)) (hd : ∀ k j, k < 3 → D k j → M_vb w mc env k j) : ∃ w', f_M_passes (some 1) (Int32.ofNat s) w = some (z_g (r_cda (r_tb (M_pr P) tbl) cds env), w') ∧ z_W [] [4756] w w' ∧ ∀ k, k < 3 → g_AI w' 4756 k = g_AI w 4756 k := by
  obtain ⟨h1, h2, h3, h4⟩ := h
  have key : ∀ (d k f : Nat) (w1 : g_St), k + d = cds.length → d + 1 < f → z_W [] [4756] w w1 → (∀ k, k < 3 → g_AI w1 4756 k = g_AI w 4756 k) → ∃ w', f_M_passes_4 f (some 1) (Int32.ofNat s) 1 (Int32.ofNat k) w1 = some (z_g ((List.range' k d).all fun i => r_cd (r_tb (M_pr P) tbl) env (cds.getD i r_cd0)), w') ∧ z_W [] [4756] w w' ∧ ∀ k, k < 3 → g_AI w' 4756 k = g_AI w 4756 k := by
    intro d
    induction d with
    | zero =>
      intro k f w1 e1 e2 hw ha
      obtain ⟨f, rfl⟩ : ∃ m, f = m + 1 := ⟨f - 1, by omega⟩
      have F1 := hw.fx S.1
      have f1 : g_R w1 2625 1 = some 2388 ∧ g_ln w1 2388 = 17 := F1 (2625, 2388, 17) (by decide)
      rw [f_M_passes_4, x_gR, f1.1, x_aI (by omega) (by omega), hw.ai (a := 2388) (by decide), h3, if_pos (by rw [x_le (by omega) (by omega)]; omega)]
      exact ⟨w1, rfl, hw, ha⟩
    | succ d ih =>
      intro k f w1 e1 e2 hw ha
      obtain ⟨f, rfl⟩ : ∃ m, f = m + 1 := ⟨f - 1, by omega⟩
      have hk : k < cds.length := by omega
      have F1 := hw.fx S.1
      have K1 : M_K w w1 := hw.mono (by decide) (by decide)
      have S1 : M_st w1 np nt Xs tw tbl P := S.mv hw (by decide) (by decide)
      have f1 : g_R w1 2625 1 = some 2388 ∧ g_ln w1 2388 = 17 := F1 (2625, 2388, 17) (by decide)
      have f2 : g_R w1 2689 1 = some 2452 ∧ g_ln w1 2452 = 102 := F1 (2689, 2452, 102) (by decide)
      have f3 : g_R w1 3905 1 = some 3284 ∧ g_ln w1 3284 = 120 := F1 (3905, 3284, 120) (by decide)
      obtain ⟨c, c1, c2⟩ := h4 k hk
      have us := hu k hk
      have hd1 : ∀ k j, k < 3 → D k j → M_vb w1 mc env k j := fun k j q1 q2 => (hd k j q1 q2).mv hw (by decide) (by decide) (ha k q1)
      -- behind a condition
      have go : ∀ (b : Bool) (w2 : g_St), b = r_cd (r_tb (M_pr P) tbl) env (cds.getD k r_cd0) → z_W [] [4756] w w2 → (∀ k, k < 3 → g_AI w2 4756 k = g_AI w 4756 k) → ∃ w', f_M_passes_4 f (some 1) (Int32.ofNat s) (z_g b) (Int32.ofNat (k + 1)) w2 = some (z_g ((List.range' k (d + 1)).all fun i => r_cd (r_tb (M_pr P) tbl) env (cds.getD i r_cd0)), w') ∧ z_W [] [4756] w w' ∧ ∀ k, k < 3 → g_AI w' 4756 k = g_AI w 4756 k := by
        intro b w2 hb hw2 ha2
        rw [List.range'_succ, List.all_cons, ← hb]
        cases b with
        | true =>
          rw [Bool.true_and]
          exact ih (k + 1) f w2 (by omega) (by omega) hw2 ha2
        | false =>
          rw [Bool.false_and]
          obtain ⟨f, rfl⟩ : ∃ m, f = m + 1 := ⟨f - 1, by omega⟩
          have F2 := hw2.fx S.1
          have f1 : g_R w2 2625 1 = some 2388 ∧ g_ln w2 2388 = 17 := F2 (2625, 2388, 17) (by decide)
          rw [f_M_passes_4, x_gR, f1.1, x_aI (by omega) (by omega), if_pos (show z_g false = 0 from rfl), ite_self]
          exact ⟨w2, rfl, hw2, ha2⟩
      rw [f_M_passes_4, x_gR, f1.1, x_aI (by omega) (by omega), hw.ai (a := 2388) (by decide), h3, if_neg (by rw [x_le (by omega) (by omega)]; omega), if_neg (by decide), x_gR, f2.1, show (6 : Int32) = Int32.ofNat 6 from rfl, x_mul, x_add, x_aI (by omega) (by omega), hw.ai (a := 2452) (by decide), c1, x_gR, f3.1]
      generalize cds.getD k r_cd0 = cd at c2 us go
      cases cd with
      | inl b =>
        have c3 : M_vcp w mc c b := c2
        have us' : r_ucp (fun k j => k < 3 ∧ D k j) b := us
        have c4 := c3.mv K1
        have v := m_cp F1 c4 us' (fun k j q => (hd1 k j q.1 q.2).bd F1)
        have cl := c4.1
        rw [x_aI (by omega) (by omega), if_neg (by
          rcases c4.2.2 with q | q
          · rw [q.2]; decide
          · rw [q.2.1]; decide), x_nn, v, x_c, x_p1]
        exact go (r_cp env b) w1 rfl hw ha
      | inr z =>
        have c3 : M_vcn w Xs mc c z := c2
        have us' : M_ok np nt z.1 ∧ ∀ b ∈ z.2, r_ucp (fun k j => (k < 3 ∧ D k j) ∨ (k = 3 ∧ r_W Xs tw z.1 j)) b := us
        have c4 := c3.mv K1
        obtain ⟨w2, v1, v2, v3⟩ := m_none S1 c4 us'.1 us'.2 hd1
        have cl := c4.1
        rw [x_aI (by omega) (by omega), if_pos c4.2.1, x_nn, v1, x_c, x_p1]
        exact go _ w2 rfl (hw.trans v2) (fun k hk => (v3 k hk).trans (ha k hk))
  unfold f_M_passes
  obtain ⟨w', k1, k2, k3⟩ := key cds.length 0 200000 w (by omega) (by omega) z_W.re (fun _ _ => rfl)
  refine ⟨w', ?_, k2, k3⟩
  unfold r_cda
  rw [List.range_eq_range']
  exact k1
end
