/-! RUNNING (engine): a selection's sources are bound, all -/
def r_wend (S : Nat) (s : g_St) : Option ((Unit ⊕ Nat) × g_St) := g_cT (g_nn (some 4) (f_Ru_combine 8 (some 4) 0 s)) fun _ s3 => g_gI s3 328 (some S) fun i4 => if i4 ≤ 0 then f_Ru_work_156 (some 4) s3 else g_cT (g_nn (some 4) (f_Ru_giveGroups (some 4) s3)) fun _ s6 => f_Ru_work_156 (some 4) s6
def r_tb (pr : Nat → List r_Row) (tbl : Nat → List (Nat → Int64)) (m : Nat ⊕ Nat) : List (Nat → Int64) := (r_rws pr tbl m).map r_hd
/-- the rows that a source gives -/
def r_rs (cp : Nat → Nat) (ua : Nat → Bool) (pr : Nat → List r_Row) (tbl : Nat → List (Nat → Int64)) (st bf : Nat → Nat) (pc : Option Nat) (m : Nat ⊕ Nat) : List r_Row := ((r_rws pr tbl m).take (r_to cp pr tbl st pc m)).drop (r_frm cp ua bf pc m)
section
variable {w : g_St} {Q np nt : Nat} {P cp tw ca : Nat → Nat} {Xs : Nat → r_Pt} {ua : Nat → Bool} {tbl : Nat → List (Nat → Int64)} {pr : Nat → List r_Row} {st bf : Nat → Nat} {tot : Nat} {so : Nat → Option Nat} {S ow : Nat} {its : List r_It} {ms : List (Nat ⊕ Nat)} {cds : List r_Cd} {lv : Nat → Nat} {rk : Bool}
theorem X_sq.w3 (H : X_sq w Q P np Xs cp ua nt tbl tw ca) {q : Nat} (hq : q < np) : (Xs q).1 ≤ 3 := by
  obtain ⟨⟨a1, a2, a3, a4, PA, a5, a6, a7, a8⟩, -⟩ := H
  exact (a8 q hq).2.1.2.1.1
theorem y_b75 (H : X_sq w Q P np Xs cp ua nt tbl tw ca) (Y : X_dy w np Xs pr st bf tot) (Z : X_sel w np nt Xs tw so S ow its ms cds lv rk) {pc : Option Nat} (hpc : g_R w 836 4 = pc.map P) (hpc' : ∀ p, pc = some p → p < np) : ∃ w', f_Ru_work_75 200000 (some 4) (some S) 0 w = f_Ru_work_101 200000 (some 4) (some S) 0 w' ∧ X_bg w w' ∧ ∀ k r, k < ms.length → so k = some r → X_bn w' r (r_ml ms k) (r_frm cp ua bf pc (r_ml ms k)) (r_to cp pr tbl st pc (r_ml ms k)) (r_mkd cp Xs pc (r_ml ms k)) := by
  have Z' := Z
  obtain ⟨⟨a1, a2, a3, a4, a5, a6, a7, a8, a9⟩, -, ⟨A, c1, c2, c3, c4⟩, d1, d2, -⟩ := Z
  refine z_cl ms.length (fun f k s => f_Ru_work_75 f (some 4) (some S) (Int32.ofNat k) s) (fun s => f_Ru_work_101 200000 (some 4) (some S) 0 s) (fun k s => X_bg w s ∧ ∀ k' r, k' < k → so k' = some r → X_bn s r (r_ml ms k') (r_frm cp ua bf pc (r_ml ms k')) (r_to cp pr tbl st pc (r_ml ms k')) (r_mkd cp Xs pc (r_ml ms k'))) (fun w' => X_bg w w' ∧ ∀ k r, k < ms.length → so k = some r → X_bn w' r (r_ml ms k) (r_frm cp ua bf pc (r_ml ms k)) (r_to cp pr tbl st pc (r_ml ms k)) (r_mkd cp Xs pc (r_ml ms k))) ?_ ?_ ms.length 0 w 200000 (by omega) (by omega) ⟨X_bg.re, fun k r hk => by omega⟩
  · rintro f s ⟨F, hB⟩
    refine ⟨s, ?_, F, hB⟩
    show f_Ru_work_75 (f + 1) (some 4) (some S) (Int32.ofNat ms.length) s = _
    rw [f_Ru_work_75, x_gI, F.rf.ag.I (by omega) (by omega) (by decide), a2, if_pos (by rw [x_le (by omega) (by omega)]; exact Nat.le_refl _)]
  · rintro f k s hk ⟨F, hB⟩
    obtain ⟨r, r1, r2, r3⟩ := c4 k hk
    have H' := H.rf F.rf
    obtain ⟨s', b1, b2, b3⟩ := y_bind H' (Y.bg (fun q hq => H.w3 hq) F) (pc := pc) (by rw [F.2.2.1 _ _ (by decide)]; exact hpc) hpc' r3.1 (r3.ag F.rf.ag).2.1 r3.2.2.1 (r3.ag F.rf.ag).2.2.2
    refine ⟨s', ?_, F.trans (b2.bg r3.1), fun k' r' hk' hr' => ?_⟩
    · show f_Ru_work_75 (f + 1) (some 4) (some S) (Int32.ofNat k) s = f_Ru_work_75 f (some 4) (some S) (Int32.ofNat (k + 1)) s'
      rw [f_Ru_work_75, x_gI, F.rf.ag.I (by omega) (by omega) (by decide), a2, if_neg (by rw [x_le (by omega) (by omega)]; omega), x_gR, F.2.2.1 _ _ (by decide), c1, x_aR (by omega) (by rw [F.1.2.2.2.2.2.1]; omega), F.1.2.2.2.2.1, r2, x_nn, b1, x_c, x_p1]
    · by_cases e : k' = k
      · rw [e] at hr' ⊢
        rw [r1] at hr'
        cases hr'
        exact b3
      · exact (hB k' r' (by omega) hr').bf b2 (fun q => by rw [q] at hr'; exact e (d2 k' k r hr' r1))
theorem y_b101 (H : X_sq w Q P np Xs cp ua nt tbl tw ca) (Y : X_dy w np Xs pr st bf tot) (Z : X_sel w np nt Xs tw so S ow its ms cds lv rk) {pc : Option Nat} (hpc : g_R w 836 4 = pc.map P) (hpc' : ∀ p, pc = some p → p < np) (h0 : ∀ k r, k < ms.length → so k = some r → X_bn w r (r_ml ms k) (r_frm cp ua bf pc (r_ml ms k)) (r_to cp pr tbl st pc (r_ml ms k)) (r_mkd cp Xs pc (r_ml ms k))) : ∃ w', f_Ru_work_101 200000 (some 4) (some S) 0 w = r_wend S w' ∧ X_bg w w' ∧ (∀ k r, k < ms.length → so k = some r → X_bn w' r (r_ml ms k) (r_frm cp ua bf pc (r_ml ms k)) (r_to cp pr tbl st pc (r_ml ms k)) (r_mkd cp Xs pc (r_ml ms k))) ∧ ∀ B i co r z, g_R w 520 S = some B → i < cds.length → g_AR w B i = some co → cds.getD i r_cd0 = .inr z → g_R w 202 co = some r → X_bn w' r z.1 (r_frm cp ua bf pc z.1) (r_to cp pr tbl st pc z.1) (r_mkd cp Xs pc z.1) := by
  have Z' := Z
  obtain ⟨⟨a1, a2, a3, a4, a5, a6, a7, a8, a9⟩, -, -, d1, d2, B, e1, e2, e3, e4, e5⟩ := Z
  suffices hh : ∃ w', f_Ru_work_101 200000 (some 4) (some S) 0 w = r_wend S w' ∧ X_bg w w' ∧ (∀ k r, k < ms.length → so k = some r → X_bn w' r (r_ml ms k) (r_frm cp ua bf pc (r_ml ms k)) (r_to cp pr tbl st pc (r_ml ms k)) (r_mkd cp Xs pc (r_ml ms k))) ∧ ∀ i co r z, i < cds.length → g_AR w B i = some co → cds.getD i r_cd0 = .inr z → g_R w 202 co = some r → X_bn w' r z.1 (r_frm cp ua bf pc z.1) (r_to cp pr tbl st pc z.1) (r_mkd cp Xs pc z.1) by
    obtain ⟨w', x1, x2, x3, x4⟩ := hh
    refine ⟨w', x1, x2, x3, fun B' i co r z hB => ?_⟩
    rw [e1] at hB
    cases hB
    exact x4 i co r z
  refine z_cl cds.length (fun f i s => f_Ru_work_101 f (some 4) (some S) (Int32.ofNat i) s) (fun s => r_wend S s) (fun i s => X_bg w s ∧ (∀ k r, k < ms.length → so k = some r → X_bn s r (r_ml ms k) (r_frm cp ua bf pc (r_ml ms k)) (r_to cp pr tbl st pc (r_ml ms k)) (r_mkd cp Xs pc (r_ml ms k))) ∧ ∀ i' co r z, i' < i → g_AR w B i' = some co → cds.getD i' r_cd0 = .inr z → g_R w 202 co = some r → X_bn s r z.1 (r_frm cp ua bf pc z.1) (r_to cp pr tbl st pc z.1) (r_mkd cp Xs pc z.1)) (fun w' => X_bg w w' ∧ (∀ k r, k < ms.length → so k = some r → X_bn w' r (r_ml ms k) (r_frm cp ua bf pc (r_ml ms k)) (r_to cp pr tbl st pc (r_ml ms k)) (r_mkd cp Xs pc (r_ml ms k))) ∧ ∀ i co r z, i < cds.length → g_AR w B i = some co → cds.getD i r_cd0 = .inr z → g_R w 202 co = some r → X_bn w' r z.1 (r_frm cp ua bf pc z.1) (r_to cp pr tbl st pc z.1) (r_mkd cp Xs pc z.1)) ?_ ?_ cds.length 0 w 200000 (by omega) (by omega) ⟨X_bg.re, h0, fun i co r z hi => by omega⟩
  · rintro f s ⟨F, hB, hC⟩
    refine ⟨s, ?_, F, hB, hC⟩
    show f_Ru_work_101 (f + 1) (some 4) (some S) (Int32.ofNat cds.length) s = _
    rw [f_Ru_work_101, x_gI, F.rf.ag.I (by omega) (by omega) (by decide), a4, if_pos (by rw [x_le (by omega) (by omega)]; exact Nat.le_refl _)]
    rfl
  · rintro f i s hi ⟨F, hB, hC⟩
    obtain ⟨co, q1, q2, q3, q4, q5, q6⟩ := e4 i hi
    have c10 := q2.1
    have stp : f_Ru_work_101 (f + 1) (some 4) (some S) (Int32.ofNat i) s = if g_R w 202 co = none then f_Ru_work_101 f (some 4) (some S) (Int32.ofNat (i + 1)) s else g_c (g_nn (some 4) (f_Ru_bind (some 4) (g_R w 202 co) s)) fun _ s14 => f_Ru_work_101 f (some 4) (some S) (Int32.ofNat (i + 1)) s14 := by
      rw [f_Ru_work_101, x_gI, F.rf.ag.I (by omega) (by omega) (by decide), a4, if_neg (by rw [x_le (by omega) (by omega)]; omega), x_gR, F.2.2.1 _ _ (by decide), e1, x_aR (by omega) (by rw [F.1.2.2.2.2.2.1]; omega), F.1.2.2.2.2.1, q1, x_gR, F.2.2.1 _ _ (by decide), x_p1]
      congr 1
      rw [x_gR, F.2.2.1 _ _ (by decide), e1, x_aR (by omega) (by rw [F.1.2.2.2.2.2.1]; omega), F.1.2.2.2.2.1, q1, x_gR, F.2.2.1 _ _ (by decide)]
    show ∃ v, f_Ru_work_101 (f + 1) (some 4) (some S) (Int32.ofNat i) s = f_Ru_work_101 f (some 4) (some S) (Int32.ofNat (i + 1)) v ∧ _
    rw [stp]
    cases hc : cds.getD i r_cd0 with
    | inl b =>
      rw [hc] at q2
      rw [if_pos q2.2.1]
      refine ⟨s, rfl, F, hB, fun i' co' r z hi' x1 x2 x3 => ?_⟩
      by_cases e : i' = i
      · rw [e, hc] at x2; cases x2
      · exact hC i' co' r z (by omega) x1 x2 x3
    | inr z =>
      rw [hc] at q2
      obtain ⟨-, r, A', r1, r2, -, r3, -⟩ := q2
      have r3' := q6 z hc r r3
      obtain ⟨s', b1, b2, b3⟩ := y_bind (H.rf F.rf) (Y.bg (fun q hq => H.w3 hq) F) (pc := pc) (by rw [F.2.2.1 _ _ (by decide)]; exact hpc) hpc' r1 (r3'.ag F.rf.ag).2.1 r3'.2.2.1 (r3'.ag F.rf.ag).2.2.2
      rw [r3, if_neg (Option.some_ne_none _), x_nn, b1, x_c]
      refine ⟨s', rfl, F.trans (b2.bg r1), fun k r' hk hr' => (hB k r' hk hr').bf b2 (fun q => by rw [q] at hr'; exact r2 k hr'), fun i' co' r' z' hi' x1 x2 x3 => ?_⟩
      by_cases e : i' = i
      · rw [e] at x1 x2
        rw [q1] at x1
        cases x1
        rw [hc] at x2
        cases x2
        rw [r3] at x3
        cases x3
        exact b3
      · exact (hC i' co' r' z' (by omega) x1 x2 x3).bf b2 (fun q => by rw [q] at x3; exact e (e5 i' i co' co r (by omega) hi x1 q1 x3 r3))
theorem r_in_no {pc : Option Nat} {m : Nat ⊕ Nat} (h : r_in cp pc m = false) : r_frm cp ua bf pc m = 0 ∧ r_to cp pr tbl st pc m = (r_rws pr tbl m).length := by
  cases m with
  | inl q => rw [r_frm_l, r_to_l, h, if_neg (by decide), if_neg (by decide)]; exact ⟨rfl, rfl⟩
  | inr t => exact ⟨rfl, by show (tbl t).length = ((tbl t).map _).length; rw [List.length_map]⟩
/-- all is bound: combining may begin -/
theorem X_cb.of (H : X_sq w Q P np Xs cp ua nt tbl tw ca) (Y : X_dy w np Xs pr st bf tot) (Z : X_sel w np nt Xs tw so S ow its ms cds lv rk) (hS : g_R w 772 4 = some S) {pc : Option Nat} {p n0 : Nat} (hp : p < 5) (hn : p < np → n0 = (pr p).length) (h1 : ∀ k r, k < ms.length → so k = some r → X_bn w r (r_ml ms k) (r_frm cp ua bf pc (r_ml ms k)) (r_to cp pr tbl st pc (r_ml ms k)) (r_mkd cp Xs pc (r_ml ms k))) (h2 : ∀ B i co r z, g_R w 520 S = some B → i < cds.length → g_AR w B i = some co → cds.getD i r_cd0 = .inr z → g_R w 202 co = some r → X_bn w r z.1 (r_frm cp ua bf pc z.1) (r_to cp pr tbl st pc z.1) (r_mkd cp Xs pc z.1)) (hin : ∀ i z, i < cds.length → cds.getD i r_cd0 = .inr z → r_in cp pc z.1 = false) : X_cb w p n0 S ms.length so cds lv (fun k => r_rs cp ua pr tbl st bf pc (r_ml ms k)) (fun k => r_mkd cp Xs pc (r_ml ms k)) (fun k => r_frm cp ua bf pc (r_ml ms k)) (fun k => r_V Xs tw (r_ml ms k)) (r_tb pr tbl) rk := by
  obtain ⟨⟨a1, a2, a3, a4, a5, a6, a7, a8, a9⟩, -, ⟨A, c1, c2, c3, c4⟩, d1, d2, B, e1, e2, e3, e4, e5⟩ := Z
  refine ⟨⟨a1, hS, a2, a3, a4, a5, a6⟩, ⟨A, c1, c2, c3, fun k hk => ?_⟩, d1, d2, B, e1, e2, e3, fun i hi => ?_⟩
  · obtain ⟨r, r1, r2, r3⟩ := c4 k hk
    exact ⟨r, r1, r2, X_ss.of H Y r3.1 r3.2.2.1 (fun t ht => (r3.2.2.2 t ht).1) (h1 k r hk r1) hp hn⟩
  · obtain ⟨co, q1, q2, q3, q4, q5, q6⟩ := e4 i hi
    refine ⟨co, q1, q2, q3, q4, ?_⟩
    cases hc : cds.getD i r_cd0 with
    | inl b =>
      rw [hc] at q5
      exact ⟨fun _ => True, q5, fun z hz => by cases hz⟩
    | inr z =>
      rw [hc] at q5
      refine ⟨r_V Xs tw z.1, q5, fun z' hz r hr => ?_⟩
      cases hz
      have r3 := q6 z hc r hr
      obtain ⟨g1, g2⟩ := r_in_no (ua := ua) (bf := bf) (pr := pr) (tbl := tbl) (st := st) (hin i z hi hc)
      obtain ⟨B1, B2, B3, B4⟩ := h2 B i co r z e1 hi q1 hc hr
      obtain ⟨cl, t1, ⟨t2, t3, t4⟩, t5, t6⟩ := H.cells Y r3.2.2.1 (fun t ht => (r3.2.2.2 t ht).1)
      have lm : (r_tb pr tbl z.1).length = (r_rws pr tbl z.1).length := List.length_map ..
      rw [g1] at B2
      rw [g2] at B3
      refine ⟨r_rel z.1, cl, B1, t1, B2, by rw [lm]; exact B3, ⟨by omega, t2, fun e => ?_⟩, by omega, fun j hj i' _ hV => ?_⟩
      · have em := t4 p hp e
        have := r3.2.2.1 p em
        rw [lm, em, hn this]
        exact Nat.le_refl _
      · rw [lm] at hj
        rw [t6 j hj i' hV]
        unfold r_tb
        rw [List.getD_eq_getElem?_getD, List.getD_eq_getElem?_getD, List.getElem?_map, List.getElem?_eq_getElem hj]
        rfl
end
