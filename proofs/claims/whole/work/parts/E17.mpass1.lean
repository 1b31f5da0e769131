/-! RUNNING (reference): plain items that are out of range -/
section
variable {w : g_St} {np nt : Nat} {Xs : Nat → r_Pt} {tw : Nat → Nat} {tbl : Nat → List (Nat → Int64)} {P : M_Pl} {s : Nat} {its : List r_It} {ms : List (Nat ⊕ Nat)} {cds : List r_Cd} {C : Nat → List Nat} {rs : Nat → List r_Row}
theorem m_wo35 {mc : Nat → Nat → Nat} {env : Nat → Nat → Int64} {D : Nat → Nat → Prop} (F : m_Fix w) (hi : M_vit w mc s its) (hc : g_AI w 2196 s = Int32.ofNat its.length) (hu : r_uit D its) (hd : ∀ k j, D k j → M_vb w mc env k j) (h0 : g_I w 1 1 = 0) (k16 : Option Nat → Int32 → Int32 → g_St → Option (Unit × g_St)) : f_M_workOut_35 k16 200000 (some 1) (Int32.ofNat s) 0 w = if r_badb its env = true then some ((), g_setI w 1 1 3) else f_M_workOut_88 k16 (some 1) (Int32.ofNat s) w := by
  have hs := hi.1
  have h4 := hi.2.1
  have ss : ∀ u : g_St, g_setI (g_setI u 1 1 3) 1 1 3 = g_setI u 1 1 3 := fun u => by
    refine Prod.ext rfl (Prod.ext rfl (Prod.ext ?_ rfl))
    funext k a
    show g_I (g_setI (g_setI u 1 1 3) 1 1 3) k a = g_I (g_setI u 1 1 3) k a
    rw [x_I_I, x_I_I]
    by_cases e : k = 1 ∧ a = 1
    · rw [if_pos e, if_pos e]
    · rw [if_neg e]
  have key : ∀ (d i f : Nat) (b : Bool), i + d = its.length → d < f → f_M_workOut_35 k16 f (some 1) (Int32.ofNat s) (Int32.ofNat i) (if b = true then g_setI w 1 1 3 else w) = if (b || (List.range' i d).any fun i => decide ((its.getD i r_it0).1 = 0) && r_oor (r_val env (its.getD i r_it0).2)) = true then some ((), g_setI w 1 1 3) else f_M_workOut_88 k16 (some 1) (Int32.ofNat s) w := by
    intro d
    induction d with
    | zero =>
      intro i f b e1 e2
      obtain ⟨f, rfl⟩ : ∃ m, f = m + 1 := ⟨f - 1, by omega⟩
      cases b with
      | true =>
        have F1 : m_Fix (g_setI w 1 1 3) := F
        have f1 : g_R (g_setI w 1 1 3) 2433 1 = some 2196 ∧ g_ln (g_setI w 1 1 3) 2196 = 17 := F1 (2433, 2196, 17) (by decide)
        rw [if_pos (show true = true from rfl), f_M_workOut_35, x_gR, f1.1, x_aI (by omega) (by omega), show g_AI (g_setI w 1 1 3) 2196 s = Int32.ofNat its.length from hc, if_pos (show Int32.ofNat its.length ≤ Int32.ofNat i from by rw [x_le (by omega) (by omega)]; omega), x_gI, x_I_I, if_pos (show (1 : Nat) = 1 ∧ (1 : Nat) = 1 from ⟨rfl, rfl⟩), if_neg (show ¬ (3 : Int32) ≤ 0 from by decide), Bool.true_or, if_pos (show true = true from rfl)]
      | false =>
        have f1 : g_R w 2433 1 = some 2196 ∧ g_ln w 2196 = 17 := F (2433, 2196, 17) (by decide)
        rw [if_neg (show ¬ false = true from by decide), f_M_workOut_35, x_gR, f1.1, x_aI (by omega) (by omega), hc, if_pos (show Int32.ofNat its.length ≤ Int32.ofNat i from by rw [x_le (by omega) (by omega)]; omega), x_gI, h0, if_pos (show (0 : Int32) ≤ 0 from by decide), Bool.false_or, if_neg (show ¬ (List.any (List.range' i 0) fun i => decide ((its.getD i r_it0).1 = 0) && r_oor (r_val env (its.getD i r_it0).2)) = true from Bool.false_ne_true)]
    | succ d ih =>
      intro i f b e1 e2
      obtain ⟨f, rfl⟩ : ∃ m, f = m + 1 := ⟨f - 1, by omega⟩
      have hil : i < its.length := by omega
      obtain ⟨w1, hw1⟩ : ∃ w1, w1 = (if b = true then g_setI w 1 1 3 else w) := ⟨_, rfl⟩
      have W1 : z_W [1] [] w w1 := by
        rw [hw1]
        cases b with
        | true => exact z_W.re.pI (by decide) _
        | false => exact z_W.re
      have F1 := W1.fx F
      have f1 : g_R w1 2433 1 = some 2196 ∧ g_ln w1 2196 = 17 := F1 (2433, 2196, 17) (by decide)
      have hi1 : M_vit w1 mc s its := hi.mv (W1.mono (by decide) (by decide))
      obtain ⟨k1, k2⟩ := m_kind F1 hi1 hil
      have tr : g_setI w1 1 1 3 = if true = true then g_setI w 1 1 3 else w := by
        rw [if_pos rfl, hw1]
        cases b with
        | true => exact ss w
        | false => rfl
      rw [← hw1, f_M_workOut_35, x_gR, f1.1, x_aI (by omega) (by omega), W1.ai (a := 2196) (by decide), hc, if_neg (by rw [x_le (by omega) (by omega)]; omega), x_nn, k1, x_c, List.range'_succ, List.any_cons]
      by_cases e : (its.getD i r_it0).1 = 0
      · rw [if_pos (by rw [M_kd0 k2]; exact e), x_nn, m_itv F1 hi1 hil (by omega) hu (fun k j q => ((hd k j q).mv W1 (by decide) (by decide) (by rw [W1.ai (a := 4756) (by decide)])).bd F1), x_c, m_fits, x_c, x_p1, decide_eq_true e, Bool.true_and]
        have ev : r_iv its env i = r_val env (its.getD i r_it0).2 := rfl
        rw [ev]
        cases r_oor (r_val env (its.getD i r_it0).2) with
        | true =>
          rw [if_pos (show z_g (!true) = 0 from rfl), x_pI, tr, ih (i + 1) f true (by omega) (by omega), Bool.true_or, Bool.or_true]
        | false =>
          rw [if_neg (show ¬ z_g (!false) = 0 from by decide), hw1, ih (i + 1) f b (by omega) (by omega), Bool.false_or]
      · rw [if_neg (by rw [M_kd0 k2]; exact e), x_p1, decide_eq_false e, Bool.false_and, Bool.false_or, hw1]
        exact ih (i + 1) f b (by omega) (by omega)
  have k0 := key its.length 0 200000 false (by omega) (by omega)
  rw [if_neg (by decide), Bool.false_or, ← List.range_eq_range'] at k0
  exact k0
/-- the first time through all combinations -/
theorem m_pass1 (S : M_st w np nt Xs tw tbl P) (L : M_sl w np nt Xs tw s its ms cds) (G : M_cst w Xs tw ms C rs) (h0 : g_I w 1 1 = 0) : ∀ (R : List (Nat → Nat)) (p : Nat → Nat) (f : Nat) (w1 : g_St), R = r_rest (fun k => (rs k).length) ms.length 0 p → (∀ k, k < ms.length → p k < (rs k).length) → R.length + 1 < f → z_W [] [4692, 4756] w w1 → M_pk w1 ms.length p → (((p :: R).any fun q => r_cda (r_tb (M_pr P) tbl) cds (r_en (r_pc rs ms.length q)) && r_badb its (r_en (r_pc rs ms.length q))) = true → ∃ w', f_M_workOut_16 f (some 1) (Int32.ofNat s) 1 w1 = some ((), w') ∧ z_W [1] [4692, 4756] w w' ∧ g_I w' 1 1 = 3) ∧ (((p :: R).any fun q => r_cda (r_tb (M_pr P) tbl) cds (r_en (r_pc rs ms.length q)) && r_badb its (r_en (r_pc rs ms.length q))) = false → ∃ w' f', f_M_workOut_16 f (some 1) (Int32.ofNat s) 1 w1 = f_M_workOut_16 (f' + 1) (some 1) (Int32.ofNat s) 0 w' ∧ z_W [] [4692, 4756] w w') := by
  intro R
  induction R with
  | nil =>
    intro p f w1 hR hb hf hw hp
    obtain ⟨f, rfl⟩ : ∃ m, f = m + 1 := ⟨f - 1, by omega⟩
    have K1 : M_K w w1 := hw.mono (by decide) (by decide)
    have S1 : M_st w1 np nt Xs tw tbl P := S.mv hw (by decide) (by decide)
    obtain ⟨w2, m1, m2, m3, m4⟩ := m_pick S1 (L.mv K1) (G.mv hw (by decide)) hp hb
    have W2 : z_W [] [4692, 4756] w w2 := hw.trans (m2.mono (by decide) (by decide))
    have K2 : M_K w w2 := W2.mono (by decide) (by decide)
    have L2 := L.mv K2
    obtain ⟨w3, n1, n2, n3⟩ := m_step (W2.fx S.1) L2 (G.mv W2 (by decide)) (hp.mv m2 (by decide)) hb
    have W3 : z_W [] [4692, 4756] w w3 := W2.trans (n2.mono (by decide) (by decide))
    rw [← hR] at n1
    have nx : f_M_workOut_88 (f_M_workOut_16 f) (some 1) (Int32.ofNat s) w2 = f_M_workOut_16 f (some 1) (Int32.ofNat s) 0 w3 := by
      unfold f_M_workOut_88
      rw [x_nn, n1, x_c]
      rfl
    obtain ⟨f, rfl⟩ : ∃ m, f = m + 1 := ⟨f - 1, by show f = f - 1 + 1; have : ([] : List (Nat → Nat)).length = 0 := rfl; omega⟩
    rw [f_M_workOut_16, if_neg (by decide), x_nn, m1, x_c, List.any_cons, List.any_nil, Bool.or_false]
    cases r_cda (r_tb (M_pr P) tbl) cds (r_en (r_pc rs ms.length p)) with
    | false =>
      rw [if_pos (show z_g false = 0 from rfl), Bool.false_and, nx]
      exact ⟨fun q => (by cases q), fun _ => ⟨w3, f, rfl, W3⟩⟩
    | true =>
      rw [if_neg (show ¬ z_g true = 0 from by decide), Bool.true_and, m_wo35 (W2.fx S.1) L2.2.2.2.2.2.2.1 L2.2.2.2.1 L2.2.2.2.2.2.2.2 m4 (by rw [W2.fi (by decide)]; exact h0), nx]
      refine ⟨fun q => ?_, fun q => ?_⟩
      · rw [if_pos q]
        exact ⟨_, rfl, (W2.mono (by decide) (by decide)).pI (by decide) _, by rw [x_I_I, if_pos ⟨rfl, rfl⟩]⟩
      · rw [if_neg (by rw [q]; decide)]
        exact ⟨w3, f, rfl, W3⟩
  | cons p' R ih =>
    intro p f w1 hR hb hf hw hp
    obtain ⟨f, rfl⟩ : ∃ m, f = m + 1 := ⟨f - 1, by omega⟩
    have K1 : M_K w w1 := hw.mono (by decide) (by decide)
    have S1 : M_st w1 np nt Xs tw tbl P := S.mv hw (by decide) (by decide)
    obtain ⟨w2, m1, m2, m3, m4⟩ := m_pick S1 (L.mv K1) (G.mv hw (by decide)) hp hb
    have W2 : z_W [] [4692, 4756] w w2 := hw.trans (m2.mono (by decide) (by decide))
    have K2 : M_K w w2 := W2.mono (by decide) (by decide)
    have L2 := L.mv K2
    obtain ⟨w3, n1, n2, n3⟩ := m_step (W2.fx S.1) L2 (G.mv W2 (by decide)) (hp.mv m2 (by decide)) hb
    have W3 : z_W [] [4692, 4756] w w3 := W2.trans (n2.mono (by decide) (by decide))
    obtain ⟨n4, n5, n6⟩ := n3 p' R hR.symm
    rw [← hR] at n1
    have nx : f_M_workOut_88 (f_M_workOut_16 f) (some 1) (Int32.ofNat s) w2 = f_M_workOut_16 f (some 1) (Int32.ofNat s) 1 w3 := by
      unfold f_M_workOut_88
      rw [x_nn, n1, x_c]
      rfl
    have hl : (p' :: R).length = R.length + 1 := rfl
    have go := ih p' f w3 n5 n6 (by omega) W3 n4
    rw [f_M_workOut_16, if_neg (by decide), x_nn, m1, x_c, List.any_cons]
    cases r_cda (r_tb (M_pr P) tbl) cds (r_en (r_pc rs ms.length p)) with
    | false =>
      rw [if_pos (show z_g false = 0 from rfl), Bool.false_and, Bool.false_or, nx]
      exact go
    | true =>
      rw [if_neg (show ¬ z_g true = 0 from by decide), Bool.true_and, m_wo35 (W2.fx S.1) L2.2.2.2.2.2.2.1 L2.2.2.2.1 L2.2.2.2.2.2.2.2 m4 (by rw [W2.fi (by decide)]; exact h0), nx]
      cases r_badb its (r_en (r_pc rs ms.length p)) with
      | true =>
        rw [if_pos rfl, Bool.true_or]
        exact ⟨fun _ => ⟨_, rfl, (W2.mono (by decide) (by decide)).pI (by decide) _, by rw [x_I_I, if_pos ⟨rfl, rfl⟩]⟩, fun q => by cases q⟩
      | false =>
        rw [if_neg (by decide), Bool.false_or]
        exact go
end
