/-! RUNNING (reference): the groups are made -/
def r_mt (tb : (Nat ⊕ Nat) → List (Nat → Int64)) (cds : List r_Cd) (rs : Nat → List r_Row) (n : Nat) (R : List (Nat → Nat)) : List (Nat → r_Row) := (R.map (r_pc rs n)).filter fun e => r_cda tb cds (r_en e)
theorem r_mt_t {tb : (Nat ⊕ Nat) → List (Nat → Int64)} {cds : List r_Cd} {rs : Nat → List r_Row} {n : Nat} {p : Nat → Nat} {R : List (Nat → Nat)} (h : r_cda tb cds (r_en (r_pc rs n p)) = true) : r_mt tb cds rs n (p :: R) = r_pc rs n p :: r_mt tb cds rs n R := by
  unfold r_mt
  rw [List.map_cons, List.filter_cons, if_pos h]
theorem r_mt_f {tb : (Nat ⊕ Nat) → List (Nat → Int64)} {cds : List r_Cd} {rs : Nat → List r_Row} {n : Nat} {p : Nat → Nat} {R : List (Nat → Nat)} (h : r_cda tb cds (r_en (r_pc rs n p)) = false) : r_mt tb cds rs n (p :: R) = r_mt tb cds rs n R := by
  unfold r_mt
  rw [List.map_cons, List.filter_cons, if_neg (by rw [h]; decide)]
def M_gx (w : g_St) (its : List r_It) (al N : Nat) (a : List r_Gp × Bool) : Prop := (a.2 = false ∧ M_gr w its N a.1 ∧ a.1.length ≤ al) ∨ (a.2 = true ∧ ∃ gs, M_gr w its N gs ∧ gs.length = al + 1)
theorem M_gx.mv {u w : g_St} {wI wA : List Nat} (h : z_W wI wA u w) (h1 : 6337 ∉ wI) (h2 : 1109 ∉ wA) (h3 : 1173 ∉ wA) {its : List r_It} {al N : Nat} {a : List r_Gp × Bool} (q : M_gx u its al N a) : M_gx w its al N a := by
  rcases q with ⟨a1, a2, a3⟩ | ⟨a1, gs, a2, a3⟩
  · exact Or.inl ⟨a1, a2.mv h h1 h2 h3, a3⟩
  · exact Or.inr ⟨a1, gs, a2.mv h h1 h2 h3, a3⟩
theorem M_gx.le {w : g_St} {its : List r_It} {al N N' : Nat} {a : List r_Gp × Bool} (q : M_gx w its al N a) (h : N ≤ N') : M_gx w its al N' a := by
  rcases q with ⟨a1, a2, a3⟩ | ⟨a1, gs, a2, a3⟩
  · exact Or.inl ⟨a1, a2.le h, a3⟩
  · exact Or.inr ⟨a1, gs, a2.le h, a3⟩
theorem z_gd_set {α : Type} {l : List α} {g j : Nat} {a d : α} (h : g < l.length) : (l.set g a).getD j d = if j = g then a else l.getD j d := by
  rw [List.getD_eq_getElem?_getD, List.getElem?_set]
  by_cases e : g = j
  · rw [if_pos e, if_pos e.symm, if_pos h]
    rfl
  · rw [if_neg e, if_neg (fun q => e q.symm), ← List.getD_eq_getElem?_getD]
section
variable {w : g_St} {np nt : Nat} {Xs : Nat → r_Pt} {tw : Nat → Nat} {tbl : Nat → List (Nat → Int64)} {P : M_Pl} {s : Nat} {its : List r_It} {ms : List (Nat ⊕ Nat)} {cds : List r_Cd} {C : Nat → List Nat} {rs : Nat → List r_Row} {al : Nat}
/-- one group takes a combination -/
theorem m_gset {mc : Nat → Nat → Nat} {env : Nat → Nat → Int64} {D : Nat → Nat → Prop} (F : m_Fix w) (hi : M_vit w mc s its) (hc : g_AI w 2196 s = Int32.ofNat its.length) (hu : r_uit D its) (hd : ∀ k j, D k j → M_vb w mc env k j) {N g : Nat} {gs : List r_Gp} (hg : g < gs.length) (hN : N < 2 ^ 30) (hx : M_gr w its N gs) (k59 : Option Nat → Int32 → Int32 → g_St → Option (Unit × g_St)) : ∃ w', f_M_makeGroups_112 k59 200000 (some 1) (Int32.ofNat s) (Int32.ofNat g) 0 w = f_M_makeGroups_180 k59 (some 1) (Int32.ofNat s) w' ∧ z_W [] [1109, 1173] w w' ∧ M_gr w' its (N + 1) (gs.set g (r_fold its env (gs.getD g r_gp0))) := by
  have h4 := hi.2.1
  have g49 := hx.2.1
  obtain ⟨w', m1, m2, m3, m4⟩ := m_mg112 F hi hc hu hd (show g < 49 by omega) hN (hx.2.2 g hg) k59
  refine ⟨w', m1, m2, ?_, by rw [List.length_set]; exact g49, fun j hj => ?_⟩
  · rw [m2.fi (by decide), List.length_set]; exact hx.1
  · rw [List.length_set] at hj
    rw [z_gd_set hg]
    by_cases e : j = g
    · rw [if_pos e, e]; exact m4
    · rw [if_neg e]
      intro i hil
      obtain ⟨a, b⟩ := m3 (4 * j + i) (by omega)
      obtain ⟨b1, b2, b3, c, b4, b5, b6⟩ := hx.2.2 j hj i hil
      exact ⟨a.trans b1, b2, b3, c, by omega, b.trans b5, b6⟩
/-- a combination is gathered -/
theorem m_gcomb {mc : Nat → Nat → Nat} {env : Nat → Nat → Int64} {D : Nat → Nat → Prop} (F : m_Fix w) (hi : M_vit w mc s its) (hc : g_AI w 2196 s = Int32.ofNat its.length) (hu : r_uit D its) (hd : ∀ k j, D k j → M_vb w mc env k j) (hal : g_I w 5441 1 = Int32.ofNat al) (al48 : al ≤ 48) {N : Nat} {a : List r_Gp × Bool} (hN : N < 2 ^ 30) (hx : M_gx w its al N a) (k59 : Option Nat → Int32 → Int32 → g_St → Option (Unit × g_St)) : ∃ w', (g_c (g_nn (some 1) (f_M_groupOf (some 1) (Int32.ofNat s) w)) fun i6 s7 =>
        g_gI s7 6337 (some 1) fun i8 =>
        if i6 = i8 then
          g_gI s7 6337 (some 1) fun i9 =>
          g_gI s7 5441 (some 1) fun i10 =>
          if i9 ≤ i10 then
            g_c (g_nn (some 1) (f_M_openGroup (some 1) (Int32.ofNat s) s7)) fun _ s12 =>
            f_M_makeGroups_112 k59 200000 (some 1) (Int32.ofNat s) i6 0 s12
          else
            f_M_makeGroups_180 k59 (some 1) (Int32.ofNat s) s7
        else
          f_M_makeGroups_112 k59 200000 (some 1) (Int32.ofNat s) i6 0 s7) = f_M_makeGroups_180 k59 (some 1) (Int32.ofNat s) w' ∧ z_W [6337] [1109, 1173] w w' ∧ M_gx w' its al (N + 1) (r_gat its al env (r_iv its env) a) := by
  have bd := fun k j q => (hd k j q).bd F
  -- the groups as they are
  obtain ⟨gs, hg, hl⟩ : ∃ gs, M_gr w its N gs ∧ ((a.2 = false ∧ gs = a.1 ∧ gs.length ≤ al) ∨ (a.2 = true ∧ gs.length = al + 1)) := by
    rcases hx with ⟨a1, a2, a3⟩ | ⟨a1, gs, a2, a3⟩
    · exact ⟨a.1, a2, Or.inl ⟨a1, rfl, a3⟩⟩
    · exact ⟨gs, a2, Or.inr ⟨a1, a3⟩⟩
  have l49 := hg.2.1
  rw [x_nn, m_gof F hi hc hu bd hg, x_c, x_gI, hg.1]
  cases hf : r_gfd its (r_iv its env) gs with
  | some g =>
    have gl : g < gs.length := by
      have := (z_ff_some hf).2.1
      omega
    show ∃ w', (if Int32.ofNat g = Int32.ofNat gs.length then _ else _) = _ ∧ _
    rw [if_neg (by rw [x_eq (by omega) (by omega)]; omega)]
    obtain ⟨w', m1, m2, m3⟩ := m_gset F hi hc hu hd gl hN hg k59
    refine ⟨w', m1, m2.mono (by decide) (by decide), ?_⟩
    rcases hl with ⟨a1, a2, a3⟩ | ⟨a1, a2⟩
    · left
      have er : r_gat its al env (r_iv its env) a = (a.1.set g (r_fold its env (a.1.getD g r_gp0)), a.2) := by
        unfold r_gat
        rw [← a2, hf]
      rw [er, ← a2]
      exact ⟨a1, m3, by show (gs.set _ _).length ≤ al; rw [List.length_set]; exact a3⟩
    · right
      refine ⟨?_, _, m3, by rw [List.length_set]; exact a2⟩
      unfold r_gat
      split
      · exact a1
      · split
        · exact a1
        · rfl
  | none =>
    show ∃ w', (if Int32.ofNat gs.length = Int32.ofNat gs.length then _ else _) = _ ∧ _
    rw [if_pos rfl, x_gI, hg.1, x_gI, hal]
    rcases hl with ⟨a1, a2, a3⟩ | ⟨a1, a2⟩
    · rw [if_pos (by rw [x_le (by omega) (by omega)]; exact a3)]
      obtain ⟨w1, o1, o2, o3⟩ := m_open F hi hc (r_iv its env) (fun w1 hw1 i hil hk => m_itv (hw1.fx F) (hi.mv (hw1.mono (by decide) (by decide))) hil (by omega) hu (fun k j q => ((hd k j q).mv hw1 (by decide) (by decide) (by rw [hw1.ai (a := 4756) (by decide)])).bd (hw1.fx F))) hg (by omega)
      rw [x_nn, o1, x_c]
      obtain ⟨w', m1, m2, m3⟩ := m_gset (o2.fx F) (hi.mv (o2.mono (by decide) (by decide))) (by rw [o2.ai (a := 2196) (by decide)]; exact hc) hu (fun k j q => (hd k j q).mv o2 (by decide) (by decide) (by rw [o2.ai (a := 4756) (by decide)])) (show gs.length < (gs ++ [r_g1 its (r_iv its env)]).length by rw [List.length_append]; exact Nat.lt_succ_self _) hN o3 k59
      have es : (gs ++ [r_g1 its (r_iv its env)]).set gs.length (r_fold its env ((gs ++ [r_g1 its (r_iv its env)]).getD gs.length r_gp0)) = gs ++ [r_fold its env (r_g1 its (r_iv its env))] := by
        rw [z_gd_e, List.set_append_right _ _ (Nat.le_refl _), Nat.sub_self]
        rfl
      rw [es] at m3
      refine ⟨w', m1, o2.trans (m2.mono (by decide) (by decide)), ?_⟩
      have er : r_gat its al env (r_iv its env) a = if a.1.length < al then (a.1 ++ [r_fold its env (r_g1 its (r_iv its env))], a.2) else (a.1, true) := by
        unfold r_gat
        rw [← a2, hf]
      rw [er, ← a2]
      by_cases q : gs.length < al
      · rw [if_pos q]
        left
        exact ⟨a1, m3, by show (gs ++ _).length ≤ al; rw [List.length_append]; show gs.length + 1 ≤ al; omega⟩
      · rw [if_neg q]
        right
        exact ⟨rfl, _, m3, by rw [List.length_append]; show gs.length + 1 = al + 1; omega⟩
    · rw [if_neg (by rw [x_le (by omega) (by omega)]; omega)]
      refine ⟨w, rfl, z_W.re, ?_⟩
      right
      refine ⟨?_, gs, hg.le (by omega), a2⟩
      unfold r_gat
      split
      · exact a1
      · split
        · exact a1
        · rfl
/-- all combinations are gathered -/
theorem m_mg59 (S : M_st w np nt Xs tw tbl P) (L : M_sl w np nt Xs tw s its ms cds) (G : M_cst w Xs tw ms C rs) (hal : g_I w 5441 1 = Int32.ofNat al) (al48 : al ≤ 48) : ∀ (R : List (Nat → Nat)) (p : Nat → Nat) (f N : Nat) (w1 : g_St) (a : List r_Gp × Bool), R = r_rest (fun k => (rs k).length) ms.length 0 p → (∀ k, k < ms.length → p k < (rs k).length) → R.length + 1 < f → N + R.length + 1 < 2 ^ 30 → z_W [6337] [1109, 1173, 4692, 4756] w w1 → M_pk w1 ms.length p → M_gx w1 its al N a → ∃ w' N' f', f_M_makeGroups_59 f (some 1) (Int32.ofNat s) 1 w1 = f_M_makeGroups_59 (f' + 1) (some 1) (Int32.ofNat s) 0 w' ∧ z_W [6337] [1109, 1173, 4692, 4756] w w' ∧ N' < 2 ^ 30 ∧ M_gx w' its al N' ((r_mt (r_tb (M_pr P) tbl) cds rs ms.length (p :: R)).foldl (fun g e => r_gat its al (r_en e) (r_iv its (r_en e)) g) a) := by
  intro R
  induction R with
  | nil =>
    intro p f N w1 a hR hb hf hN hw hp hx
    obtain ⟨f, rfl⟩ : ∃ m, f = m + 1 := ⟨f - 1, by omega⟩
    have hl0 : ([] : List (Nat → Nat)).length = 0 := rfl
    have K1 : M_K w w1 := hw.mono (by decide) (by decide)
    have S1 : M_st w1 np nt Xs tw tbl P := S.mv hw (by decide) (by decide)
    obtain ⟨w2, m1, m2, m3, m4⟩ := m_pick S1 (L.mv K1) (G.mv hw (by decide)) hp hb
    have W2 : z_W [6337] [1109, 1173, 4692, 4756] w w2 := hw.trans (m2.mono (by decide) (by decide))
    have L2 := L.mv (W2.mono (by decide) (by decide))
    have x2 : M_gx w2 its al N a := hx.mv m2 (by decide) (by decide) (by decide)
    have nx : ∀ w3, z_W [6337] [1109, 1173, 4692, 4756] w w3 → M_pk w3 ms.length p → ∃ w4, f_M_makeGroups_180 (f_M_makeGroups_59 f) (some 1) (Int32.ofNat s) w3 = f_M_makeGroups_59 f (some 1) (Int32.ofNat s) 0 w4 ∧ z_W [] [4692] w3 w4 := fun w3 hw3 hp3 => by
      obtain ⟨w4, n1, n2, n3⟩ := m_step (hw3.fx S.1) (L.mv (hw3.mono (by decide) (by decide))) (G.mv hw3 (by decide)) hp3 hb
      rw [← hR] at n1
      refine ⟨w4, ?_, n2⟩
      unfold f_M_makeGroups_180
      rw [x_nn, n1, x_c]
      rfl
    rw [f_M_makeGroups_59, if_neg (by decide), x_nn, m1, x_c]
    cases hcd : r_cda (r_tb (M_pr P) tbl) cds (r_en (r_pc rs ms.length p)) with
    | false =>
      rw [if_pos (show z_g false = 0 from rfl), r_mt_f hcd]
      obtain ⟨w4, n1, n2⟩ := nx w2 W2 (hp.mv m2 (by decide))
      exact ⟨w4, N, f - 1, by rw [n1, show f - 1 + 1 = f by omega], W2.trans (n2.mono (by decide) (by decide)), by omega, x2.mv n2 (by decide) (by decide) (by decide)⟩
    | true =>
      rw [if_neg (show ¬ z_g true = 0 from by decide), r_mt_t hcd]
      obtain ⟨w3, c1, c2, c3⟩ := m_gcomb (W2.fx S.1) L2.2.2.2.2.2.2.1 L2.2.2.2.1 L2.2.2.2.2.2.2.2 m4 (by rw [W2.fi (by decide)]; exact hal) al48 (show N < 2 ^ 30 by omega) x2 (f_M_makeGroups_59 f)
      have W3 : z_W [6337] [1109, 1173, 4692, 4756] w w3 := W2.trans (c2.mono (by decide) (by decide))
      obtain ⟨w4, n1, n2⟩ := nx w3 W3 ((hp.mv m2 (by decide)).mv c2 (by decide))
      exact ⟨w4, N + 1, f - 1, by rw [c1, n1, show f - 1 + 1 = f by omega], W3.trans (n2.mono (by decide) (by decide)), by omega, c3.mv n2 (by decide) (by decide) (by decide)⟩
  | cons p' R ih =>
    intro p f N w1 a hR hb hf hN hw hp hx
    obtain ⟨f, rfl⟩ : ∃ m, f = m + 1 := ⟨f - 1, by omega⟩
    have hl0 : (p' :: R).length = R.length + 1 := rfl
    have K1 : M_K w w1 := hw.mono (by decide) (by decide)
    have S1 : M_st w1 np nt Xs tw tbl P := S.mv hw (by decide) (by decide)
    obtain ⟨w2, m1, m2, m3, m4⟩ := m_pick S1 (L.mv K1) (G.mv hw (by decide)) hp hb
    have W2 : z_W [6337] [1109, 1173, 4692, 4756] w w2 := hw.trans (m2.mono (by decide) (by decide))
    have L2 := L.mv (W2.mono (by decide) (by decide))
    have x2 : M_gx w2 its al N a := hx.mv m2 (by decide) (by decide) (by decide)
    have nx : ∀ w3, z_W [6337] [1109, 1173, 4692, 4756] w w3 → M_pk w3 ms.length p → ∃ w4, f_M_makeGroups_180 (f_M_makeGroups_59 f) (some 1) (Int32.ofNat s) w3 = f_M_makeGroups_59 f (some 1) (Int32.ofNat s) 1 w4 ∧ z_W [] [4692] w3 w4 ∧ M_pk w4 ms.length p' ∧ R = r_rest (fun k => (rs k).length) ms.length 0 p' ∧ ∀ k, k < ms.length → p' k < (rs k).length := fun w3 hw3 hp3 => by
      obtain ⟨w4, n1, n2, n3⟩ := m_step (hw3.fx S.1) (L.mv (hw3.mono (by decide) (by decide))) (G.mv hw3 (by decide)) hp3 hb
      have n4 := n3 p' R hR.symm
      rw [← hR] at n1
      refine ⟨w4, ?_, n2, n4⟩
      unfold f_M_makeGroups_180
      rw [x_nn, n1, x_c]
      rfl
    rw [f_M_makeGroups_59, if_neg (by decide), x_nn, m1, x_c]
    cases hcd : r_cda (r_tb (M_pr P) tbl) cds (r_en (r_pc rs ms.length p)) with
    | false =>
      rw [if_pos (show z_g false = 0 from rfl), r_mt_f hcd]
      obtain ⟨w4, n1, n2, n3, n4, n5⟩ := nx w2 W2 (hp.mv m2 (by decide))
      rw [n1]
      exact ih p' f N w4 a n4 n5 (by omega) (by omega) (W2.trans (n2.mono (by decide) (by decide))) n3 (x2.mv n2 (by decide) (by decide) (by decide))
    | true =>
      rw [if_neg (show ¬ z_g true = 0 from by decide), r_mt_t hcd, List.foldl_cons]
      obtain ⟨w3, c1, c2, c3⟩ := m_gcomb (W2.fx S.1) L2.2.2.2.2.2.2.1 L2.2.2.2.1 L2.2.2.2.2.2.2.2 m4 (by rw [W2.fi (by decide)]; exact hal) al48 (show N < 2 ^ 30 by omega) x2 (f_M_makeGroups_59 f)
      have W3 : z_W [6337] [1109, 1173, 4692, 4756] w w3 := W2.trans (c2.mono (by decide) (by decide))
      obtain ⟨w4, n1, n2, n3, n4, n5⟩ := nx w3 W3 ((hp.mv m2 (by decide)).mv c2 (by decide))
      rw [c1, n1]
      exact ih p' f (N + 1) w4 _ n4 n5 (by omega) (by omega) (W3.trans (n2.mono (by decide) (by decide))) n3 (c3.mv n2 (by decide) (by decide) (by decide))
end
