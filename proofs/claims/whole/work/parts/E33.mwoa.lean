/-! RUNNING (reference): the query's own selection -/
def M_arel (w0 : g_St) (np nt : Nat) (Xs : Nat → r_Pt) (tw : Nat → Nat) (tbl : Nat → List (Nat → Int64)) (al n wd : Nat) (ks : List (Nat × Nat)) (pp : Nat → Nat) (C : Nat → List Nat) (P : M_Pl) (w : g_St) (a : List r_An × Nat × Bool) : Prop := M_K w0 w ∧ M_cand w n C ∧ g_I w 1 1 = 0 ∧ M_st w np nt Xs tw tbl P ∧ M_an w wd ks pp P a.1 ∧ a.2.1 = P.length + a.1.length ∧ a.2.2 = false ∧ P.length + a.1.length ≤ al
/-- what stands still -/
def M_osl (w : g_St) (np nt : Nat) (Xs : Nat → r_Pt) (tw : Nat → Nat) (s : Nat) (its : List r_It) (ms : List (Nat ⊕ Nat)) (cds : List r_Cd) (ks : List (Nat × Nat)) : Prop := M_sl w np nt Xs tw s its ms cds ∧ M_sov w np nt s ms ∧ g_AI w 2004 s = 4 ∧ M_ord w Xs ms ks
theorem M_osl.mv {u w : g_St} (h : M_K u w) {np nt : Nat} {Xs : Nat → r_Pt} {tw : Nat → Nat} {s : Nat} {its : List r_It} {ms : List (Nat ⊕ Nat)} {cds : List r_Cd} {ks : List (Nat × Nat)} (q : M_osl u np nt Xs tw s its ms cds ks) : M_osl w np nt Xs tw s its ms cds ks := by
  obtain ⟨q1, q2, q3, q4⟩ := q
  exact ⟨q1.mv h, q2.mv h, by rw [h.ai (a := 2004) (by decide)]; exact q3, q4.mv h (by decide) (by decide) (by decide)⟩
def r_kok (Xs : Nat → r_Pt) (tw : Nat → Nat) (ms : List (Nat ⊕ Nat)) (ks : List (Nat × Nat)) (pp : Nat → Nat) : Prop := ∀ k, k < ks.length → (ks.getD k (0, 0)).1 < ms.length ∧ ((ks.getD k (0, 0)).2 ≠ 4 → r_W Xs tw (r_ml ms (ks.getD k (0, 0)).1) (ks.getD k (0, 0)).2) ∧ ((ks.getD k (0, 0)).2 = 4 → r_ml ms (ks.getD k (0, 0)).1 = .inl (pp k))
section
variable {w0 : g_St} {np nt : Nat} {Xs : Nat → r_Pt} {tw : Nat → Nat} {tbl : Nat → List (Nat → Int64)} {s al : Nat} {its : List r_It} {ms : List (Nat ⊕ Nat)} {cds : List r_Cd} {ks : List (Nat × Nat)} {pp : Nat → Nat} {C : Nat → List Nat} {rs : Nat → List r_Row} {P : M_Pl}
theorem m_a1 (H : M_osl w0 np nt Xs tw s its ms cds ks) (hal : g_I w0 5441 1 = Int32.ofNat al) (hcr : M_cr P tbl ms C rs) : M_sk1 (M_arel w0 np nt Xs tw tbl al ms.length its.length ks pp C P) np nt Xs tw tbl (r_tb (M_pr P) tbl) s al its ms cds C rs := by
  intro w a hr
  obtain ⟨K, c, c0, S, -⟩ := hr
  have H' := H.mv K
  refine ⟨c0, by rw [K.fi (by decide)]; exact hal, H'.1, hcr.cst S (fun k hk => ?_) c, _, S, fun env => rfl⟩
  obtain ⟨b, -, -, h⟩ := H'.2.1.2.2.2
  exact (h k hk).1
theorem m_a2 : M_sk2 (M_arel w0 np nt Xs tw tbl al ms.length its.length ks pp C P) := by
  intro w w' a hw hr
  obtain ⟨K, c, c0, S, A, r1, r2, r3⟩ := hr
  exact ⟨K.trans (hw.mono (by decide) (by decide)), c.mv hw (by decide) (by decide), by rw [hw.fi (by decide)]; exact c0, S.mv hw (by decide) (by decide), A.mv hw (by decide) (by decide) (by decide), r1, r2, r3⟩
theorem m_aput {w w' : g_St} {a : List r_An × Nat × Bool} (hr : M_arel w0 np nt Xs tw tbl al ms.length its.length ks pp C P w a) {b : r_An} (hW : z_W [1, 5377] [981, 1045] w w') (h1 : P.length + a.1.length < al → g_I w' 1 1 = g_I w 1 1 ∧ M_an w' its.length ks pp P (a.1 ++ [b])) (h2 : ¬ P.length + a.1.length < al → g_I w' 1 1 = 4) : ((r_putA al a b).2.2 = true → g_I w' 1 1 = 4) ∧ ((r_putA al a b).2.2 = false → M_arel w0 np nt Xs tw tbl al ms.length its.length ks pp C P w' (r_putA al a b)) := by
  obtain ⟨K, c, c0, S, A, r1, r2, r3⟩ := hr
  unfold r_putA
  rw [r1]
  by_cases q : P.length + a.1.length < al
  · rw [if_pos q]
    obtain ⟨d1, d2⟩ := h1 q
    refine ⟨fun z => ?_, fun _ => ⟨K.trans (hW.mono (by decide) (by decide)), c.mv hW (by decide) (by decide), d1.trans c0, S.mv hW (by decide) (by decide), d2, ?_, r2, ?_⟩⟩
    · have z' : a.2.2 = true := z
      rw [r2] at z'; cases z'
    · show P.length + a.1.length + 1 = P.length + (a.1 ++ [b]).length
      rw [List.length_append]; rfl
    · show P.length + (a.1 ++ [b]).length ≤ al
      rw [List.length_append]; show P.length + (a.1.length + 1) ≤ al; omega
  · rw [if_neg q]
    exact ⟨fun _ => h2 q, fun z => by cases z⟩
theorem m_a3 (H : M_osl w0 np nt Xs tw s its ms cds ks) (hal : g_I w0 5441 1 = Int32.ofNat al) (al48 : al ≤ 48) (hcr : M_cr P tbl ms C rs) (ok : r_kok Xs tw ms ks pp) (g0 : r_gc its = 0) : M_sk3 (M_arel w0 np nt Xs tw tbl al ms.length its.length ks pp C P) (fun ch v a => r_putA al a (v, ks.map (r_key ch))) (fun a => a.2.2) np nt Xs tw s its ms cds C rs := by
  intro w a pk hr hfo hb hat hvb
  have hr0 := hr
  obtain ⟨K, c, c0, S, A, r1, r2, r3⟩ := hr
  have H' := H.mv K
  obtain ⟨h1, h2, h3, h4⟩ := H'
  have hl4 : its.length ≤ 4 := h1.2.2.2.2.2.2.1.2.1
  have hms : ∀ k, k < ms.length → M_ok np nt (r_ml ms k) := fun k hk => by
    obtain ⟨b, -, -, h⟩ := h2.2.2.2
    exact (h k hk).1
  have plain : ∀ i, i < its.length → (its.getD i r_it0).1 = 0 := fun i hi => by
    have e0 : (its.filter fun i => decide (i.1 ≠ 0)) = [] := List.length_eq_zero_iff.mp g0
    have := List.filter_eq_nil_iff.mp e0 _ (z_getD_m (d := r_it0) hi)
    simpa using this
  have G := hcr.cst S hms c
  have key : M_key w Xs P ms pp ks (r_pc rs ms.length pk) := fun k hk => by
    obtain ⟨o1, o2, o3⟩ := ok k hk
    have er : r_pc rs ms.length pk (ks.getD k (0, 0)).1 = (rs (ks.getD k (0, 0)).1).getD (pk (ks.getD k (0, 0)).1) [] := by unfold r_pc; rw [if_pos o1]
    refine ⟨_, hat _ o1, fun q => ?_, fun q => ?_⟩
    · obtain ⟨i0, a0, b0⟩ := (hcr _ o1).2 _ (hb _ o1)
      rw [o3 q] at a0 b0
      exact ⟨i0, a0, by rw [er]; exact M_at_inl b0⟩
    · obtain ⟨y1, y2⟩ := (G.2 _ o1).2 _ (hb _ o1) _ (o2 q)
      exact ⟨y1, by rw [er]; exact y2⟩
  obtain ⟨w', m1, m2, m3, m4⟩ := m_bans (its := its) (ms := ms) (x2 := -1) (v := r_iv its (r_en (r_pc rs ms.length pk))) S h1.1 h1.2.2.2.1 hl4 h3 (by rw [K.fi (by decide)]; exact hal) al48 A r3 h4 h1.2.1 key (Or.inl ⟨rfl, fun w1 hw1 i hi => m_itv (hw1.fx S.1) (h1.2.2.2.2.2.2.1.mv (hw1.mono (by decide) (by decide))) hi (by rw [plain i hi]; decide) h1.2.2.2.2.2.2.2 (fun k j q => ((hvb k j q).mv hw1 (by decide) (by decide) (by rw [hw1.ai (a := 4756) (by decide)])).bd (hw1.fx S.1))⟩)
  obtain ⟨f1, f2⟩ := m_aput hr0 (b := (r_iv its (r_en (r_pc rs ms.length pk)), ks.map (r_key (r_pc rs ms.length pk)))) m2 m3 m4
  exact ⟨w', m1, m2.ai (by decide), fun q => ⟨f1 q, m2.fx S.1, h1.mv (m2.mono (by decide) (by decide)), G.mv m2 (by decide)⟩, f2⟩
theorem m_a4 (H : M_osl w0 np nt Xs tw s its ms cds ks) (hal : g_I w0 5441 1 = Int32.ofNat al) (al48 : al ≤ 48) (hgk : ks = []) : M_sk4 (M_arel w0 np nt Xs tw tbl al ms.length its.length ks pp C P) (fun ch v a => r_putA al a (v, ks.map (r_key ch))) (fun a => a.2.2) s its := by
  intro w a N gs g hr hfo hg hgl
  have hr0 := hr
  obtain ⟨K, c, c0, S, A, r1, r2, r3⟩ := hr
  have H' := H.mv K
  obtain ⟨h1, h2, h3, h4⟩ := H'
  have hl4 : its.length ≤ 4 := h1.2.2.2.2.2.2.1.2.1
  have l49 := hg.2.1
  obtain ⟨w', m1, m2, m3, m4⟩ := m_bans (its := its) (ms := ms) (ch := fun _ => []) (x2 := Int32.ofNat g) (v := r_gv its (gs.getD g r_gp0)) S h1.1 h1.2.2.2.1 hl4 h3 (by rw [K.fi (by decide)]; exact hal) al48 A r3 h4 h1.2.1 (fun k hk => by rw [hgk] at hk; cases hk) (Or.inr ⟨g, by omega, rfl, fun i hi => (hg.2.2 g hgl i hi).1⟩)
  obtain ⟨f1, f2⟩ := m_aput hr0 (b := (r_gv its (gs.getD g r_gp0), ks.map (r_key fun _ => []))) m2 m3 m4
  exact ⟨w', m1, hg.mv m2 (by decide) (by decide) (by decide), f1, f2⟩
end
/-- what is there behind the query's own selection -/
def M_ares (w : g_St) (np nt : Nat) (Xs : Nat → r_Pt) (tw : Nat → Nat) (tbl : Nat → List (Nat → Int64)) (wd : Nat) (ks : List (Nat × Nat)) (pp : Nat → Nat) (P : M_Pl) : (List r_An × Nat × Bool) ⊕ Nat → Prop
  | .inl a => g_I w 1 1 = 0 ∧ M_st w np nt Xs tw tbl P ∧ M_an w wd ks pp P a.1
  | .inr c => g_I w 1 1 = Int32.ofNat (c + 1)
section
variable {w : g_St} {np nt : Nat} {Xs : Nat → r_Pt} {tw : Nat → Nat} {tbl : Nat → List (Nat → Int64)} {s al : Nat} {P : M_Pl} {cp : Nat → Nat} {ua : Nat → Bool} {st bf : Nat → Nat} {ks : List (Nat × Nat)} {pp : Nat → Nat}
theorem m_woa {y : r_Sel} (S : M_st w np nt Xs tw tbl P) (H : M_osl w np nt Xs tw s y.1 y.2.1 y.2.2.1 ks) (hfd : g_AI w 159 s = z_g (!decide (r_gc y.1 = 0))) (hpcs : ∀ q, q < np → M_pcv w q (Xs q)) (hal : g_I w 5441 1 = Int32.ofNat al) (al1 : 1 ≤ al) (al48 : al ≤ 48) (c0 : g_I w 1 1 = 0) (c1 : g_I w 5377 1 = 0) (le : P.length ≤ al) (hcd : ∀ i, i < y.2.2.1.length → y.2.2.2.1 i ≤ y.2.1.length ∧ r_ucd Xs tw y.2.1 (y.2.2.2.1 i) (y.2.2.1.getD i r_cd0)) (ok : r_kok Xs tw y.2.1 ks pp) (hgk : r_gc y.1 ≠ 0 → ks = []) : ∃ w', f_M_workOut (some 1) (Int32.ofNat s) 0 0 (Int32.ofNat P.length) w = some ((), w') ∧ M_ares w' np nt Xs tw tbl y.1.length ks pp P (r_work y.1 al (fun ch v a => r_putA al a (v, ks.map (r_key ch))) (fun a => a.2.2) (r_cbs cp Xs ua (M_pr P) tbl st bf none y.2.1 y.2.2.1 y.2.2.2.1) ([], P.length, false)) := by
  obtain ⟨its, ms, cds, lv, rk⟩ := y
  have H0 : M_osl w np nt Xs tw s its ms cds ks := H
  obtain ⟨h1, h2, h3, h4⟩ := H0
  have P2 := S.2.2.1.2.1
  obtain ⟨b, b1, b2, b3⟩ := h2.2.2.2
  have np4 := S.2.2.2.1
  have n3 : ms.length ≤ 3 := h1.2.1
  have hms : ∀ k, k < ms.length → M_ok np nt (r_ml ms k) := fun k hk => (b3 k hk).1
  obtain ⟨w1, g1, g2, g3⟩ := m_gath S h1.1 n3 h1.2.2.1 b1 b2 b3 (sn := M_see Xs P 4 0 0 P.length) (x2 := 0) (x3 := 0) (x4 := Int32.ofNat P.length) (fun w1 hw1 q i r hq hr => m_seen (ow := 4) (mask := 0) (low := 0) (S.mv hw1 (by decide) (by decide)) h1.1 (by rw [hw1.ai (a := 2004) (by decide)]; exact h3) (by omega) (by omega) (by omega) (by omega) hq ((hpcs q hq).mv (hw1.mono (by decide) (by decide))) hr)
  have K1 : M_K w w1 := g2.mono (by decide) (by decide)
  have S1 := S.mv g2 (by decide) (by decide)
  have H1 : M_osl w1 np nt Xs tw s its ms cds ks := M_osl.mv K1 H
  have hcr := M_rsl_cr P tbl (M_see Xs P 4 0 0 P.length) ms
  have hrs : ∀ k, k < ms.length → M_rsl P tbl (M_see Xs P 4 0 0 P.length) (r_ml ms k) = r_pk (r_mkd cp Xs none (r_ml ms k)) (r_rs cp ua (M_pr P) tbl st bf none (r_ml ms k)) := fun k hk => by
    rw [M_rsl_fm]
    have e : (fun i => if M_sn (M_see Xs P 4 0 0 P.length) (r_ml ms k) i = true then M_at P tbl (r_ml ms k) i else none) = M_at P tbl (r_ml ms k) := funext fun i => by
      refine if_pos ?_
      cases r_ml ms k with
      | inr t => rfl
      | inl q =>
        show M_see Xs P 4 0 0 P.length q i = true
        unfold M_see
        rw [Nat.zero_testBit, Bool.not_false, Bool.true_or]
    rw [e, M_rws]
    cases r_ml ms k with
    | inr t =>
      show (tbl t).map (fun c => ([c] : r_Row)) = ((((tbl t).map fun c => ([c] : r_Row)).take (tbl t).length).drop 0).filter fun a => !(false && decide (r_hd a 3 = 1))
      rw [List.drop_zero, List.take_of_length_le (by rw [List.length_map]; exact Nat.le_refl _)]
      exact (List.filter_eq_self.mpr (fun a _ => rfl)).symm
    | inl q =>
      show M_pr P q = (((M_pr P q).take (M_pr P q).length).drop 0).filter fun a => !(false && decide (r_hd a 3 = 1))
      rw [List.drop_zero, List.take_length]
      exact (List.filter_eq_self.mpr (fun a _ => rfl)).symm
  have rel : M_arel w1 np nt Xs tw tbl al ms.length its.length ks pp (fun k => (M_ix P tbl (M_see Xs P 4 0 0 P.length) (r_ml ms k)).map (M_xc (r_ml ms k))) P w1 ([], P.length, false) := ⟨z_W.re, g3, by rw [g2.fi (by decide)]; exact c0, S1, ⟨by rw [g2.fi (by decide)]; exact c1, Nat.zero_le _, fun i hi => by cases hi⟩, rfl, rfl, le⟩
  have al1' : g_I w1 5441 1 = Int32.ofNat al := by rw [g2.fi (by decide)]; exact hal
  obtain ⟨w', m1, m2⟩ := m_wk (m_a1 H1 al1' hcr) m_a2 (fun g0 => m_a3 H1 al1' al48 hcr ok g0) (fun g0 => m_a4 H1 al1' al48 (hgk g0)) (fun e v a h => by
    have h' : a.2.2 = true := h
    show (r_putA _ _ _).2.2 = true
    unfold r_putA
    split
    · exact h'
    · rfl) al1 al48 (fun k hk => by
    show ((M_ix P tbl _ (r_ml ms k)).map _).length ≤ 48
    rw [List.length_map]
    have l1 : (M_ix P tbl (M_see Xs P 4 0 0 P.length) (r_ml ms k)).length ≤ M_nd P tbl (r_ml ms k) := Nat.le_trans (List.length_filter_le _ _) (by rw [List.length_range]; exact Nat.le_refl _)
    have hm := hms k hk
    cases hq : r_ml ms k with
    | inl q =>
      rw [hq] at l1
      have : M_nd P tbl (.inl q) = P.length := rfl
      omega
    | inr t =>
      rw [hq] at l1 hm
      have : M_nd P tbl (.inr t) = (tbl t).length := rfl
      have := (S.2.1.2 t hm).2.1
      omega) rel rfl (by rw [g2.ai (a := 159) (by decide)]; exact hfd)
  have e : f_M_workOut (some 1) (Int32.ofNat s) 0 0 (Int32.ofNat P.length) w = some ((), w') := by
    unfold f_M_workOut
    rw [x_nn, g1, x_c]
    exact m1
  refine ⟨w', e, ?_⟩
  have ec : r_cbs cp Xs ua (M_pr P) tbl st bf none ms cds lv = r_mt (r_tb (M_pr P) tbl) cds (fun k => M_rsl P tbl (M_see Xs P 4 0 0 P.length) (r_ml ms k)) ms.length (r_all (fun k => (M_rsl P tbl (M_see Xs P 4 0 0 P.length) (r_ml ms k)).length) ms.length 0 (fun _ => 0)) := r_cbs_mt n3 hcd hrs
  show M_ares w' np nt Xs tw tbl its.length ks pp P (r_work its al (fun ch v a => r_putA al a (v, ks.map (r_key ch))) (fun a => a.2.2) (r_cbs cp Xs ua (M_pr P) tbl st bf none ms cds lv) ([], P.length, false))
  rw [ec]
  generalize r_work its al (fun ch v a => r_putA al a (v, ks.map (r_key ch))) (fun a => a.2.2) (r_mt (r_tb (M_pr P) tbl) cds (fun k => M_rsl P tbl (M_see Xs P 4 0 0 P.length) (r_ml ms k)) ms.length (r_all (fun k => (M_rsl P tbl (M_see Xs P 4 0 0 P.length) (r_ml ms k)).length) ms.length 0 (fun _ => 0))) ([], P.length, false) = R at m2 ⊢
  cases R with
  | inr c => exact m2
  | inl a =>
    obtain ⟨-, -, d0, SS, A, -⟩ := m2
    exact ⟨d0, SS, A⟩
end
