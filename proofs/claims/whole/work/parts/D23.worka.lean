/-! RUNNING (engine): the query's own selection is worked -/
theorem X_aa.sf {w w' : g_St} {wd : Nat} {ks : List (Nat × Nat)} {pr : Nat → List r_Row} {pp : Nat → Nat} {al : Nat} {a : List r_An × Nat × Bool} (h : X_aa w wd ks pr pp al a) (f : X_sf w w') : X_aa w' wd ks pr pp al a := by
  obtain ⟨⟨h1, h2, h3, h4⟩, h5, h6, h7, h8, h9, h10⟩ := h
  refine ⟨⟨by rw [f.2.1 _ _ (by decide) (by decide)]; exact h1, h2, fun i hi j hj => by rw [f.2.2.1 _ _ (by decide) (by decide)]; exact h3 i hi j hj, fun i hi => ⟨(h4 i hi).1, fun k hk => ?_⟩⟩, by rw [f.2.1 _ _ (by decide) (by decide)]; exact h5, by rw [f.2.1 _ _ (by decide) (by decide)]; exact h6, h7, h8, h9, by rw [f.2.1 _ _ (by decide) (by decide)]; exact h10⟩
  rw [f.2.2.1 _ _ (by decide) (by decide)]
  exact (h4 i hi).2 k hk
theorem r_putA_mono {al : Nat} {a : List r_An × Nat × Bool} {b : r_An} (h : a.2.2 = true) : (r_putA al a b).2.2 = true := by
  unfold r_putA
  split
  · exact h
  · rfl
theorem r_putA_tot {al : Nat} {a : List r_An × Nat × Bool} {b : r_An} : a.2.1 ≤ (r_putA al a b).2.1 := by
  unfold r_putA
  split
  · exact Nat.le_succ _
  · exact Nat.le_refl _
section
variable {w : g_St} {Q np nt : Nat} {P cp tw ca : Nat → Nat} {Xs : Nat → r_Pt} {ua : Nat → Bool} {tbl : Nat → List (Nat → Int64)} {pr : Nat → List r_Row} {st bf : Nat → Nat} {tot : Nat} {so : Nat → Option Nat} {S ow : Nat} {its : List r_It} {ms : List (Nat ⊕ Nat)} {cds : List r_Cd} {lv : Nat → Nat} {rk : Bool} {al mr : Nat}
theorem r_cbs_len (Y : X_dy w np Xs pr st bf tot) (H : X_sq w Q P np Xs cp ua nt tbl tw ca) (pc : Option Nat) (h3 : ms.length ≤ 3) (hm : ∀ k, k < ms.length → (∀ q, r_ml ms k = .inl q → q < np) ∧ ∀ t, r_ml ms k = .inr t → t < nt) : (r_cbs cp Xs ua pr tbl st bf pc ms cds lv).length < 2 ^ 30 := by
  have e : r_cbs cp Xs ua pr tbl st bf pc ms cds lv = r_cl (r_tb pr tbl) cds lv (fun k => if k < ms.length then r_pk (r_mkd cp Xs pc (r_ml ms k)) (r_rs cp ua pr tbl st bf pc (r_ml ms k)) else []) ms.length 0 (fun _ => []) := by
    have key : ∀ (d l : Nat) (ch : Nat → r_Row), l + d ≤ ms.length → r_cl (r_tb pr tbl) cds lv (fun k => r_pk (r_mkd cp Xs pc (r_ml ms k)) (r_rs cp ua pr tbl st bf pc (r_ml ms k))) d l ch = r_cl (r_tb pr tbl) cds lv (fun k => if k < ms.length then r_pk (r_mkd cp Xs pc (r_ml ms k)) (r_rs cp ua pr tbl st bf pc (r_ml ms k)) else []) d l ch := by
      intro d
      induction d with
      | zero => intro l ch _; rfl
      | succ d ih =>
        intro l ch hl
        unfold r_cl
        rw [if_pos (show l < ms.length by omega)]
        congr 1
        exact congrArg (fun f => List.flatMap f _) (funext fun a => ih (l + 1) _ (by omega))
    exact key ms.length 0 _ (by omega)
  rw [e]
  have := r_cl_len (r_tb pr tbl) cds lv (fun k => if k < ms.length then r_pk (r_mkd cp Xs pc (r_ml ms k)) (r_rs cp ua pr tbl st bf pc (r_ml ms k)) else []) (fun k => by
    by_cases hk : k < ms.length
    · rw [if_pos hk]
      exact Nat.le_trans (List.length_filter_le _ _) (r_rs_len Y H pc (hm k hk).1 (hm k hk).2)
    · rw [if_neg hk]; exact Nat.zero_le _) ms.length 0 (fun _ => [])
  have : 48 ^ ms.length ≤ 48 ^ 3 := Nat.pow_le_pow_right (by decide) h3
  omega
theorem y_workA (H : X_sq w Q P np Xs cp ua nt tbl tw ca) (Ra : X_ra w al mr) (Y : X_dy w np Xs pr st bf tot) (Z : X_sel w np nt Xs tw so S ow its ms cds lv rk) (hi1 : 1 ≤ its.length) (h261 : g_I w 261 261 = Int32.ofNat 0) {ks : List (Nat × Nat)} (hO : X_or w so ks) {pp : Nat → Nat} (hks : ∀ k, k < ks.length → (ks.getD k (0, 0)).1 < ms.length ∧ ((ks.getD k (0, 0)).2 ≠ 4 → r_V Xs tw (r_ml ms (ks.getD k (0, 0)).1) (ks.getD k (0, 0)).2 ∧ (ks.getD k (0, 0)).2 ≤ 3) ∧ ((ks.getD k (0, 0)).2 = 4 → r_ml ms (ks.getD k (0, 0)).1 = .inl (pp k))) (hgk : r_gc its ≠ 0 → ks = []) (hnr : rk = false → ∀ ch, (∀ k, k < ms.length → ch k ∈ r_rs cp ua pr tbl st bf none (r_ml ms k)) → ¬ r_bad its (r_en ch)) : X_res (f_Ru_work (some 4) (some S) 4 w) (X_rf w) (fun w' a => X_dy w' np Xs pr st bf a.2.1 ∧ X_aa w' its.length ks pr pp al a ∧ g_AI w' 84 = g_AI w 84) (r_work its al (fun ch v a => r_putA al a (v, ks.map (r_key ch))) (fun a => a.2.2) (r_cbs cp Xs ua pr tbl st bf none ms cds lv) ([], tot, false)) := by
  have np4 := H.1.2.2.2.1
  have rin : ∀ m, r_in cp none m = false := fun m => by cases m <;> rfl
  obtain ⟨w0, k1, k2, Y0, C, rn, k4, k5, k6, k7, k8, -, k10, k11, k12⟩ := y_wbind H Ra Y Z hi1 (p := 4) (pc := none) (Or.inr ⟨rfl, rfl⟩) (n0 := 0) (fun h => by omega) (fun i z _ _ => rin z.1)
  have H0 := H.rf k2
  have H0' := H0
  have Ra0 := Ra.rf k2
  have Z0 := Z.ag k2.ag
  obtain ⟨⟨a1, a2, a3, a4, PA, a5, a6, a7, a8⟩, ⟨b1, b2, b3⟩, -⟩ := H0
  have FX := (b3 4 (by omega)).2
  obtain ⟨⟨z1, z2, z3, z4, z5, z6, z7, z8, z9⟩, ⟨z10, z11⟩, ⟨A, c1, c2, c3, c4⟩, d1, d2, -⟩ := Z0
  obtain ⟨⟨r1, r2, r3, r4, r5, r6⟩, ⟨r7, r8, -, -, -, -⟩, x1, x2, -, -, x3, x4⟩ := Ra0
  have O0 : X_or w0 so ks := hO.ag k2.ag (k2.2.1 _ _ (by decide) (by decide))
  have hmm : ∀ k, k < ms.length → (∀ q, r_ml ms k = .inl q → q < np) ∧ ∀ t, r_ml ms k = .inr t → t < nt := fun k hk => by
    obtain ⟨r, s1, s2, s3⟩ := c4 k hk
    exact ⟨s3.2.2.1, fun t ht => (s3.2.2.2 t ht).1⟩
  have nos : ∀ k r rel, so k = some r → g_R w0 521 r = some rel → g_R w0 69 rel ≠ some 533 := fun k r rel h1 h2 h3 => by
    by_cases hk : k < ms.length
    · have := k10 k r hk h1
      rw [this] at h2
      cases h2
      obtain ⟨cl, q1, ⟨q2, q3, q4⟩, -⟩ := H0'.cells Y0 (hmm k hk).1 (hmm k hk).2
      rw [q1] at h3
      cases h3
      have := (hmm k hk).1 4 (q4 4 (by omega) rfl)
      omega
    · rw [d1 k (by omega)] at h1; cases h1
  have come : ∀ w' a ch vals, X_wf 4 0 w0 w' → (X_aa w' its.length ks pr pp al a ∧ tot ≤ a.2.1) → (ks ≠ [] → X_eb w' so (fun k => r_rs cp ua pr tbl st bf none (r_ml ms k)) (fun k => r_frm cp ua bf none (r_ml ms k)) ms.length ch) → (∀ i, i < its.length → g_AL w' 149 i = vals i) → ∃ w'' m, 0 ≤ m ∧ f_Ru_come (some 4) w' = some ((), w'') ∧ X_fm 4 m w' w'' ∧ X_aa w'' its.length ks pr pp al (r_putA al a (vals, ks.map (r_key ch))) ∧ tot ≤ (r_putA al a (vals, ks.map (r_key ch))).2.1 := by
    intro w' a ch vals F hA hE hv
    have R : ∀ k c, g_R w' k c = g_R w0 k c := fun k c => by rw [F.1.2.2.2.1]
    have N : ∀ c, g_ln w' c = g_ln w0 c := fun c => by rw [F.1.2.2.2.2.2.2]
    have FX' : X_fx w' 4 := by
      unfold X_fx at FX ⊢
      rw [F.1.2.2.2.1, F.1.2.2.2.2.2.2]; exact FX
    have ne : ∀ k, k < ks.length → ks ≠ [] := fun k hk e => by rw [e] at hk; cases hk
    obtain ⟨w'', g1, g2, g3⟩ := y_comeA (w := w') (S := S) (wd := its.length) (vals := vals) (so := so) (ks := ks) (al := al) (pr := pr) (pp := pp) (a := a) (ch := ch) (D := fun k j => ks ≠ [] ∧ k < ms.length ∧ r_V Xs tw (r_ml ms k) j ∧ j ≤ 3) (by rw [R]; exact rn.1) z1 (by rw [F.ag.I (by omega) (by omega) (by decide)]; exact z10.2.1) z10.2.2.1 (by rw [R]; exact k4) FX' (by rw [R]; exact k5) (by rw [R]; exact r1) (by rw [N]; exact r2) (by rw [R]; exact r7) (by rw [N]; exact r8) hv (O0.ag F.ag (R _ _)) hA.1 (fun k hk h4 => ⟨ne k hk, (hks k hk).1, (hks k hk).2.1 h4⟩) (fun k j hk => by
      obtain ⟨r, rel, cl, x, q1, q2, q3, q4, q5, q6, q7⟩ := (hE hk.1).bd C F (Nat.le_refl _) hk.2.1
      exact ⟨r, rel, cl, x, q1, q2, q3, q4, q5, q6, fun i hi => q7 i hi.2.2⟩) (fun k r rel h1 h2 => by rw [R] at h2 ⊢; exact nos k r rel h1 h2) (fun k hk h4 => by
      obtain ⟨hs, -, em⟩ := hks k hk
      have em' := em h4
      obtain ⟨r, j, e1, e2, e3, e4⟩ := hE (ne k hk) _ hs
      obtain ⟨g1, g2⟩ := r_in_no (ua := ua) (bf := bf) (pr := pr) (tbl := tbl) (st := st) (rin (r_ml ms (ks.getD k (0, 0)).1))
      have er : r_rs cp ua pr tbl st bf none (r_ml ms (ks.getD k (0, 0)).1) = pr (pp k) := by
        unfold r_rs
        rw [g1, g2, List.drop_zero, List.take_length, em']
        rfl
      simp only [] at e2 e3 e4
      rw [er] at e3 e4
      rw [g1, Nat.zero_add] at e2
      have hq := (hmm _ hs).1 (pp k) em'
      exact ⟨r, j, e1, e2, e3, (Y0.1 (pp k) hq).1.2.1, e4⟩)
    exact ⟨w'', a.1.length, Nat.zero_le _, g1, g2, g3, Nat.le_trans hA.2 r_putA_tot⟩
  have hso : ∀ k r, so k = some r → r % 64 = 9 := fun k r hr => by
    by_cases hk : k < ms.length
    · obtain ⟨r', s1, s2, s3⟩ := c4 k hk
      rw [s1] at hr
      cases hr
      exact s3.1
    · rw [d1 k (by omega)] at hr; cases hr
  have res := y_wend (α := List r_An × Nat × Bool) (Rel0 := fun w' a => X_aa w' its.length ks pr pp al a ∧ tot ≤ a.2.1) (put := fun ch v a => r_putA al a (v, ks.map (r_key ch))) (fo := fun a => a.2.2) (al := al) C z10 z11 rn z9 x1 x2 k6 k8 ⟨x3, x4⟩ (fun w' a h => h.1.2.2.2.2.2.2) (fun ch v a h => r_putA_mono h) (fun s s' a f h => ⟨h.1.sf f, h.2⟩) hnr (fun w' a ch vals _ F hR E hv => come w' a ch vals F hR (fun _ => E) hv) (fun w' a vals gz F hR hv => come w' a (fun _ => []) vals F hR (fun q => absurd (hgk gz) q) hv) hso (a0 := ([], tot, false)) ⟨⟨⟨by rw [k11 _ _ (by decide)]; exact h261, Nat.zero_le _, fun i hi => (by cases hi), fun i hi => by cases hi⟩, Y0.2.1, x1, x2, Nat.zero_le _, Y0.2.2, k7⟩, Nat.le_refl _⟩ rfl (ch0 := fun _ => []) (L := r_cbs cp Xs ua pr tbl st bf none ms cds lv) rfl (r_cbs_len Y H none z3 hmm)
  rw [show f_Ru_work (some 4) (some S) 4 w = r_wend S w0 from k1]
  generalize r_work its al (fun ch v a => r_putA al a (v, ks.map (r_key ch))) (fun a => a.2.2) (r_cbs cp Xs ua pr tbl st bf none ms cds lv) ([], tot, false) = rr at res ⊢
  cases rr with
  | inr c =>
    obtain ⟨w', g1, g2⟩ := res
    exact ⟨w', g1, k2.trans (g2.rf (by omega))⟩
  | inl a =>
    obtain ⟨w', g1, g2, g3, g4⟩ := res
    refine ⟨w', g1, k2.trans (g2.rf (by omega)), ⟨fun q hq => ?_, g3.2.1, g3.2.2.2.2.2.1⟩, g3, by rw [← k12]; exact funext fun i => g2.2.2.2 _ i (fun z => by have := z.1; omega) (by decide)⟩
    obtain ⟨m1, m2, m3, m4, m5, m6⟩ := Y0.1 q hq
    have I : ∀ k, k ≠ 713 → g_I w' k (64 * q + 5) = g_I w0 k (64 * q + 5) := fun k h1 => g2.2.1 _ _ h1 (fun z => by have := z.2; omega) (fun z => by have := z.1; omega)
    exact ⟨m1.eq (H.w3 hq) (I _ (by decide)) (funext fun i => g2.2.2.1 _ i (fun z => by have := z.1; omega) (by omega) (by omega) (by omega)) (funext fun i => g2.2.2.2 _ i (fun z => by have := z.1; omega) (by omega)) (funext fun i => g2.2.2.2 _ i (fun z => by have := z.1; omega) (by omega)), by rw [I _ (by decide)]; exact m2, by rw [I _ (by decide)]; exact m3, m4, m5, Nat.le_trans m6 g4⟩
end
