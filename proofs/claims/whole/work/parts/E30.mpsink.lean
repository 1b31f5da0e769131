/-! RUNNING (reference): a selection is worked out for a part -/
/-- what stands still: the selection of a part -/
def M_psl (w : g_St) (np nt : Nat) (Xs : Nat → r_Pt) (tw : Nat → Nat) (s p : Nat) (its : List r_It) (ms : List (Nat ⊕ Nat)) (cds : List r_Cd) : Prop := M_sl w np nt Xs tw s its ms cds ∧ M_sov w np nt s ms ∧ g_AI w 2004 s = Int32.ofNat p ∧ p < np ∧ M_pcv w p (Xs p) ∧ M_un w p (Xs p) ∧ its.length = (Xs p).1
theorem M_psl.mv {u w : g_St} (h : M_K u w) {np nt : Nat} {Xs : Nat → r_Pt} {tw : Nat → Nat} {s p : Nat} {its : List r_It} {ms : List (Nat ⊕ Nat)} {cds : List r_Cd} (q : M_psl u np nt Xs tw s p its ms cds) : M_psl w np nt Xs tw s p its ms cds := by
  obtain ⟨q1, q2, q3, q4, q5, q6, q7⟩ := q
  refine ⟨q1.mv h, q2.mv h, by rw [h.ai (a := 2004) (by decide)]; exact q3, q4, q5.mv h, ?_, q7⟩
  unfold M_un at q6 ⊢
  rw [h.ai (a := 95) (by decide), h.ai (a := 1940) (by decide)]
  exact q6
/-- what is asked of the selection -/
def r_sok (Xs : Nat → r_Pt) (p : Nat) (its : List r_It) (ms : List (Nat ⊕ Nat)) (cds : List r_Cd) (rs : Nat → List r_Row) : Prop := (∀ i z, i < cds.length → cds.getD i r_cd0 = .inr z → z.1 ≠ .inl p) ∧ (r_tr (Xs p) = true → (∀ k k', k < ms.length → k' < ms.length → r_ml ms k = .inl p → r_ml ms k' = .inl p → k = k') ∧ (r_gc its ≠ 0 → ∀ k, k < ms.length → r_ml ms k ≠ .inl p) ∧ ∀ k, k < ms.length → r_ml ms k = .inl p → ∀ r ∈ rs k, r.length ≤ 29)
def M_prel (w0 : g_St) (np nt : Nat) (Xs : Nat → r_Pt) (tw : Nat → Nat) (tbl : Nat → List (Nat → Int64)) (al n p : Nat) (C : Nat → List Nat) (P0 : M_Pl) (w : g_St) (a : List r_Row × Nat × Bool) : Prop := M_K w0 w ∧ M_cand w n C ∧ g_I w 1 1 = 0 ∧ g_I w 5377 1 = 0 ∧ ∃ l : List r_Row, a = (M_pr P0 p ++ l, P0.length + l.length, false) ∧ M_st w np nt Xs tw tbl (P0 ++ l.map fun r => (p, r)) ∧ M_ro Xs (P0 ++ l.map fun r => (p, r)) ∧ P0.length + l.length ≤ al
section
variable {w0 : g_St} {np nt : Nat} {Xs : Nat → r_Pt} {tw : Nat → Nat} {tbl : Nat → List (Nat → Int64)} {s p al : Nat} {its : List r_It} {ms : List (Nat ⊕ Nat)} {cds : List r_Cd} {C : Nat → List Nat} {rs : Nat → List r_Row} {P0 : M_Pl}
theorem m_p1 (H : M_psl w0 np nt Xs tw s p its ms cds) (hal : g_I w0 5441 1 = Int32.ofNat al) (hcr : M_cr P0 tbl ms C rs) (ok : r_sok Xs p its ms cds rs) : M_sk1 (M_prel w0 np nt Xs tw tbl al ms.length p C P0) np nt Xs tw tbl (r_tb (M_pr P0) tbl) s al its ms cds C rs := by
  intro w a hr
  obtain ⟨K, c, c0, -, l, -, S, -, -⟩ := hr
  have H' := H.mv K
  refine ⟨c0, by rw [K.fi (by decide)]; exact hal, H'.1, (hcr.app _).cst S (fun k hk => ?_) c, _, S, fun env => r_cda_cg (fun i z hi hz => r_tb_grow P0 l p tbl (ok.1 i z hi hz)) env⟩
  obtain ⟨b, -, -, h⟩ := H'.2.1.2.2.2
  exact (h k hk).1
theorem m_p2 : M_sk2 (M_prel w0 np nt Xs tw tbl al ms.length p C P0) := by
  intro w w' a hw hr
  obtain ⟨K, c, c0, c1, l, e, S, ro, le⟩ := hr
  exact ⟨K.trans (hw.mono (by decide) (by decide)), c.mv hw (by decide) (by decide), by rw [hw.fi (by decide)]; exact c0, by rw [hw.fi (by decide)]; exact c1, l, e, S.mv hw (by decide) (by decide), ro, le⟩
/-- what a row does to the pool, and to the list of the part's rows -/
theorem m_pput (hal48 : al ≤ 48) {w w' : g_St} {a : List r_Row × Nat × Bool} (hr : M_prel w0 np nt Xs tw tbl al ms.length p C P0 w a) (H : M_psl w0 np nt Xs tw s p its ms cds) {b : r_Row} (ob : r_okr (Xs p) b) (hW : z_W [1, 4929] [789, 853, 917, 4116, 4180, 4244] w w') (hB : ∀ l : List r_Row, a = (M_pr P0 p ++ l, P0.length + l.length, false) → M_brg w w' np nt Xs tw tbl (P0 ++ l.map fun r => (p, r)) p al b) : ((r_put (Xs p) al a b).2.2 = true → g_I w' 1 1 = 4) ∧ ((r_put (Xs p) al a b).2.2 = false → M_prel w0 np nt Xs tw tbl al ms.length p C P0 w' (r_put (Xs p) al a b)) := by
  obtain ⟨K, c, c0, c1, l, e, S, ro, le⟩ := hr
  have B := hB l e
  have K' : M_K w0 w' := K.trans (hW.mono (by decide) (by decide))
  have c' : M_cand w' ms.length C := c.mv hW (by decide) (by decide)
  have c1' : g_I w' 5377 1 = 0 := by rw [hW.fi (by decide)]; exact c1
  have epr : M_pr (P0 ++ l.map fun r => (p, r)) p = M_pr P0 p ++ l := by rw [M_pr_app, M_pr_own, if_pos rfl]
  have elen : (P0 ++ l.map fun r => (p, r)).length = P0.length + l.length := by rw [List.length_append, List.length_map]
  unfold M_brg at B
  rw [epr, elen] at B
  rw [e]
  unfold r_put
  show ((if ((Xs p).2.2.2 && (M_pr P0 p ++ l).any fun r => r_same (Xs p) r b) = true then (M_pr P0 p ++ l, P0.length + l.length, false) else if P0.length + l.length < al then (M_pr P0 p ++ l ++ [b], P0.length + l.length + 1, false) else (M_pr P0 p ++ l, P0.length + l.length, true)).2.2 = true → _) ∧ ((if ((Xs p).2.2.2 && (M_pr P0 p ++ l).any fun r => r_same (Xs p) r b) = true then (M_pr P0 p ++ l, P0.length + l.length, false) else if P0.length + l.length < al then (M_pr P0 p ++ l ++ [b], P0.length + l.length + 1, false) else (M_pr P0 p ++ l, P0.length + l.length, true)).2.2 = false → M_prel w0 np nt Xs tw tbl al ms.length p C P0 w' (if ((Xs p).2.2.2 && (M_pr P0 p ++ l).any fun r => r_same (Xs p) r b) = true then (M_pr P0 p ++ l, P0.length + l.length, false) else if P0.length + l.length < al then (M_pr P0 p ++ l ++ [b], P0.length + l.length + 1, false) else (M_pr P0 p ++ l, P0.length + l.length, true)))
  by_cases q1 : ((Xs p).2.2.2 && (M_pr P0 p ++ l).any fun r => r_same (Xs p) r b) = true
  · rw [if_pos q1] at B ⊢
    exact ⟨fun q => (by cases q), fun _ => ⟨K', c', B.2.trans c0, c1', l, rfl, B.1, ro, le⟩⟩
  · rw [if_neg q1] at B ⊢
    by_cases q2 : P0.length + l.length < al
    · rw [if_pos q2] at B ⊢
      have el : P0 ++ l.map (fun r => (p, r)) ++ [(p, b)] = P0 ++ (l ++ [b]).map fun r => (p, r) := by
        rw [List.map_append, List.append_assoc]; rfl
      rw [el] at B
      refine ⟨fun q => (by cases q), fun _ => ⟨K', c', B.2.trans c0, c1', l ++ [b], ?_, B.1, ?_, ?_⟩⟩
      · rw [List.append_assoc, List.length_append]; rfl
      · rw [← el]
        intro x hx
        rcases List.mem_append.mp hx with h | h
        · exact ro x h
        · rw [List.mem_singleton.mp h]; exact ob
      · rw [List.length_append]; show P0.length + (l.length + 1) ≤ al; omega
    · rw [if_neg q2] at B ⊢
      exact ⟨fun _ => B, fun q => by cases q⟩
theorem m_p3 (H : M_psl w0 np nt Xs tw s p its ms cds) (hal : g_I w0 5441 1 = Int32.ofNat al) (al48 : al ≤ 48) (hcr : M_cr P0 tbl ms C rs) (ok : r_sok Xs p its ms cds rs) (g0 : r_gc its = 0) : M_sk3 (M_prel w0 np nt Xs tw tbl al ms.length p C P0) (fun ch v a => r_put (Xs p) al a (r_nrow (Xs p) v (r_par ms p ch))) (fun a => a.2.2) np nt Xs tw s its ms cds C rs := by
  intro w a pk hr hfo hb hat hvb
  have hr0 := hr
  obtain ⟨K, c, c0, c1, l, e, S, ro, le⟩ := hr
  have H' := H.mv K
  obtain ⟨h1, h2, h3, h4, h5, h6, h7⟩ := H'
  have hl4 : its.length ≤ 4 := h1.2.2.2.2.2.2.1.2.1
  have elen : (P0 ++ l.map fun r => (p, r)).length = P0.length + l.length := by rw [List.length_append, List.length_map]
  have cr2 := hcr.app (l.map fun r => (p, r))
  have hms : ∀ k, k < ms.length → M_ok np nt (r_ml ms k) := fun k hk => by
    obtain ⟨b, -, -, h⟩ := h2.2.2.2
    exact (h k hk).1
  -- the chosen codes
  have code : ∀ k, k < ms.length → (C k).getD (pk k) 0 < 80 ∨ (100 ≤ (C k).getD (pk k) 0 ∧ (C k).getD (pk k) 0 < 100 + (P0 ++ l.map fun r => (p, r)).length) := fun k hk => by
    obtain ⟨i0, a, b⟩ := (cr2 k hk).2 (pk k) (hb k hk)
    rw [a]
    exact M_xc_lt S.2.1.1 (fun t ht => (S.2.1.2 t ht).2.1) (hms k hk) b
  have plain : ∀ i, i < its.length → (its.getD i r_it0).1 = 0 := fun i hi => by
    have e0 : (its.filter fun i => decide (i.1 ≠ 0)) = [] := List.length_eq_zero_iff.mp g0
    have := List.filter_eq_nil_iff.mp e0 _ (z_getD_m (d := r_it0) hi)
    simpa using this
  obtain ⟨w', m1, m2, m3, m4⟩ := m_bring (s := s) (its := its) (al := al) (par := r_par ms p (r_pc rs ms.length pk)) (v := r_iv its (r_en (r_pc rs ms.length pk))) (x2 := -1) S h1.1 h1.2.2.2.1 h7 h3 h4 h5 h6 ro (by rw [K.fi (by decide)]; exact hal) al48 (by rw [elen]; exact le) c1 (Or.inl ⟨rfl, fun w1 hw1 hl1 i hi => by
    refine m_itv (hw1.fx S.1) (h1.2.2.2.2.2.2.1.mv (hw1.mono (by decide) (by decide))) hi (by rw [plain i hi]; decide) h1.2.2.2.2.2.2.2 (fun k j q => ?_)
    exact ((hvb k j q).lo hl1 (hw1.al (by decide)) (by rw [hw1.ai (a := 4756) (by decide)]) (hat k q.1) (code k q.1) (S.2.2.1.2.1)).bd (hw1.fx S.1)⟩) (fun t w1 hw1 hl1 => by
    obtain ⟨un, -, l29⟩ := ok.2 t
    obtain ⟨pa, pb⟩ := m_par (hw1.fx S.1) S.2.1.1 S.2.2.2.1 (show p < 4 by have := S.2.2.2.1; omega) (h2.mv (hw1.mono (by decide) (by decide))) un
    unfold r_par
    cases hz : z_ff (fun m => decide (r_ml ms m = .inl p)) ms.length 0 with
    | none =>
      exact ⟨-1, pa (fun k hk q => by
        have := z_ff_none hz k (Nat.zero_le _) (by omega)
        rw [q] at this
        simp at this), Or.inl ⟨rfl, rfl⟩⟩
    | some m =>
      obtain ⟨-, z2, z3, -⟩ := z_ff_some hz
      have hm : m < ms.length := by omega
      have em : r_ml ms m = .inl p := of_decide_eq_true z3
      obtain ⟨i0, a0, b0⟩ := (cr2 m hm).2 (pk m) (hb m hm)
      rw [em] at a0 b0
      have b1 := M_at_inl b0
      have il : i0 < (P0 ++ l.map fun r => (p, r)).length := by
        by_cases g : i0 < (P0 ++ l.map fun r => (p, r)).length
        · exact g
        · rw [List.getElem?_eq_none (by omega)] at b1; cases b1
      have at1 : g_AI w1 4756 m = Int32.ofNat (100 + i0) := by
        rw [hw1.ai (a := 4756) (by decide), hat m hm, a0]; rfl
      have row := (S.2.2.1.2.2 i0 p _ b1).2.2
      have er : r_pc rs ms.length pk m = (rs m).getD (pk m) [] := by unfold r_pc; rw [if_pos hm]
      refine ⟨_, pb m i0 hm em at1, Or.inr ⟨i0, il, rfl, ?_, ?_⟩⟩
      · show M_row w1 (Xs p) i0 (r_pc rs ms.length pk m)
        rw [er]
        exact hl1.row (S.2.2.2.2 p h4) il row
      · show (r_pc rs ms.length pk m).length ≤ 29
        rw [er]
        exact l29 m hm em _ (z_getD_m (hb m hm)))
  have ob : r_okr (Xs p) (r_nrow (Xs p) (r_iv its (r_en (r_pc rs ms.length pk))) (r_par ms p (r_pc rs ms.length pk))) := r_okr_n (fun c hc => by have := (h5.2.2.2.2.2.2 c hc).2.2; have := S.2.2.2.2 p h4; omega) _ _
  obtain ⟨f1, f2⟩ := m_pput al48 hr0 H ob m2 (fun l' e' => by
    rw [e] at e'
    have e1 : M_pr P0 p ++ l = M_pr P0 p ++ l' := (Prod.mk.inj e').1
    rw [← List.append_cancel_left e1]
    exact m4)
  have K' : M_K w0 w' := K.trans (m2.mono (by decide) (by decide))
  refine ⟨w', m1, m2.ai (by decide), fun q => ⟨f1 q, m2.fx S.1, (H.mv K').1, ⟨c.mv m2 (by decide) (by decide), fun k hk => ?_⟩⟩, f2⟩
  -- the candidates' cells stay
  have G := cr2.cst S hms c
  refine ⟨(G.2 k hk).1, fun i hi j hj => ?_⟩
  obtain ⟨y1, y2⟩ := (G.2 k hk).2 i hi j hj
  refine ⟨y1, ?_⟩
  obtain ⟨i0, a0, b0⟩ := (cr2 k hk).2 i hi
  have cd := M_xc_lt S.2.1.1 (fun t ht => (S.2.1.2 t ht).2.1) (hms k hk) b0
  rw [← a0] at cd
  unfold M_cl at y2 ⊢
  rw [m2.al (a := 597) (by decide)]
  by_cases g : (C k).getD i 0 < 100
  · rw [if_pos g] at y2 ⊢; exact y2
  · rw [if_neg g] at y2 ⊢
    rw [m3.1 _ (by rcases y1 with y | y <;> omega)]
    exact y2
theorem m_p4 (H : M_psl w0 np nt Xs tw s p its ms cds) (hal : g_I w0 5441 1 = Int32.ofNat al) (al48 : al ≤ 48) (ok : r_sok Xs p its ms cds rs) (g0 : r_gc its ≠ 0) : M_sk4 (M_prel w0 np nt Xs tw tbl al ms.length p C P0) (fun ch v a => r_put (Xs p) al a (r_nrow (Xs p) v (r_par ms p ch))) (fun a => a.2.2) s its := by
  intro w a N gs g hr hfo hg hgl
  have hr0 := hr
  obtain ⟨K, c, c0, c1, l, e, S, ro, le⟩ := hr
  have H' := H.mv K
  obtain ⟨h1, h2, h3, h4, h5, h6, h7⟩ := H'
  have elen : (P0 ++ l.map fun r => (p, r)).length = P0.length + l.length := by rw [List.length_append, List.length_map]
  have l49 := hg.2.1
  have par0 : r_par ms p (fun _ => []) = [] := by
    unfold r_par
    cases z_ff (fun m => decide (r_ml ms m = .inl p)) ms.length 0 <;> rfl
  obtain ⟨w', m1, m2, m3, m4⟩ := m_bring (s := s) (its := its) (al := al) (par := r_par ms p (fun _ => [])) (v := r_gv its (gs.getD g r_gp0)) (x2 := Int32.ofNat g) S h1.1 h1.2.2.2.1 h7 h3 h4 h5 h6 ro (by rw [K.fi (by decide)]; exact hal) al48 (by rw [elen]; exact le) c1 (Or.inr ⟨g, by omega, rfl, fun i hi => (hg.2.2 g hgl i hi).1⟩) (fun t w1 hw1 hl1 => by
    obtain ⟨un, no, -⟩ := ok.2 t
    obtain ⟨pa, pb⟩ := m_par (hw1.fx S.1) S.2.1.1 S.2.2.2.1 (show p < 4 by have := S.2.2.2.1; omega) (h2.mv (hw1.mono (by decide) (by decide))) un
    exact ⟨-1, pa (no g0), Or.inl ⟨rfl, par0⟩⟩)
  have ob : r_okr (Xs p) (r_nrow (Xs p) (r_gv its (gs.getD g r_gp0)) (r_par ms p (fun _ => []))) := r_okr_n (fun c hc => by have := (h5.2.2.2.2.2.2 c hc).2.2; have := S.2.2.2.2 p h4; omega) _ _
  obtain ⟨f1, f2⟩ := m_pput al48 hr0 H ob m2 (fun l' e' => by
    rw [e] at e'
    have e1 : M_pr P0 p ++ l = M_pr P0 p ++ l' := (Prod.mk.inj e').1
    rw [← List.append_cancel_left e1]
    exact m4)
  exact ⟨w', m1, hg.mv m2 (by decide) (by decide) (by decide), f1, f2⟩
end
