/-! RUNNING (engine): the end of a run -/
theorem z_fold_inv {α β : Type} (P : α → Prop) (f : α → β → α) (h : ∀ a b, P a → P (f a b)) : ∀ (l : List β) (a : α), P a → P (l.foldl f a) := by
  intro l
  induction l with
  | nil => intro a ha; exact ha
  | cons b l ih => intro a ha; rw [List.foldl_cons]; exact ih _ (h a b ha)
/-- what putting keeps, working keeps -/
theorem r_work_inv {α : Type} {its : List r_It} {al : Nat} {put : (Nat → r_Row) → (Nat → Int64) → α → α} {fo : α → Bool} {L : List (Nat → r_Row)} {a0 a : α} (P : α → Prop) (hp : ∀ ch v a, P a → P (put ch v a)) (h0 : P a0) (h : r_work its al put fo L a0 = .inl a) : P a := by
  unfold r_work at h
  split at h
  · cases h
  · split at h
    · split at h
      · cases h
      · cases h
        exact z_fold_inv P _ (fun a e ha => hp _ _ _ ha) L a0 h0
    · split at h
      · cases h
      · split at h
        · cases h
        · split at h
          · cases h
          · cases h
            exact z_fold_inv P _ (fun a g ha => hp _ _ _ ha) _ a0 h0
theorem r_putA_keys {al : Nat} {ks : List (Nat × Nat)} {ch : Nat → r_Row} {v : Nat → Int64} {a : List r_An × Nat × Bool} (h : ∀ i, i < a.1.length → ∃ ch, (a.1.getD i r_an0).2 = ks.map (r_key ch)) : ∀ i, i < (r_putA al a (v, ks.map (r_key ch))).1.length → ∃ ch', ((r_putA al a (v, ks.map (r_key ch))).1.getD i r_an0).2 = ks.map (r_key ch') := by
  intro i hi
  unfold r_putA at hi ⊢
  by_cases l : a.2.1 < al
  · rw [if_pos l] at hi ⊢
    have hi' : i < (a.1 ++ [(v, ks.map (r_key ch))]).length := hi
    rw [List.length_append, List.length_singleton] at hi'
    show ∃ ch', ((a.1 ++ [(v, ks.map (r_key ch))]).getD i r_an0).2 = _
    rw [z_getD_app]
    by_cases e : i < a.1.length
    · rw [if_pos e]; exact h i e
    · rw [if_neg e, if_pos (by omega)]; exact ⟨ch, rfl⟩
  · rw [if_neg l] at hi ⊢
    exact h i hi
theorem X_pf.rf {v w : g_St} (h : X_pf v w) : X_rf v w := by
  obtain ⟨⟨a1, a2, a3, a4, a5, a6, a7, a8, a9⟩, a10⟩ := h
  exact ⟨⟨a1, a2, a3, a5, a6, a7⟩, fun k a _ _ => by rw [a4], fun k a _ _ _ => by rw [a8], fun a i _ => by rw [a9], fun a i x => by rw [a10 a (fun e => x (by omega))]⟩
theorem X_dy.pf {v w : g_St} {np : Nat} {Xs : Nat → r_Pt} {pr : Nat → List r_Row} {st bf : Nat → Nat} {tot : Nat} (h : X_dy v np Xs pr st bf tot) (hw : ∀ q, q < np → (Xs q).1 ≤ 3) (f : X_pf v w) : X_dy w np Xs pr st bf tot := by
  obtain ⟨h1, h2, h3⟩ := h
  have I := f.1.2.2.2.2.2.2.2.1
  have AL := f.1.2.2.2.2.2.2.2.2
  refine ⟨fun q hq => ?_, by rw [I]; exact h2, h3⟩
  obtain ⟨a1, a2, a3, a4⟩ := h1 q hq
  exact ⟨a1.eq (hw q hq) (by rw [I]) (by rw [AL]) (f.2 _ (by omega)) (f.2 _ (by omega)), by rw [I]; exact a2, by rw [I]; exact a3, a4⟩
theorem X_aa.pf {w w' : g_St} {wd : Nat} {ks : List (Nat × Nat)} {pr : Nat → List r_Row} {pp : Nat → Nat} {al : Nat} {a : List r_An × Nat × Bool} (h : X_aa w wd ks pr pp al a) (f : X_pf w w') : X_aa w' wd ks pr pp al a := by
  have I := f.1.2.2.2.2.2.2.2.1
  have AL := f.1.2.2.2.2.2.2.2.2
  unfold X_aa X_ky at *
  rw [I, AL]
  exact h
/-- what a run that ends well leaves -/
def X_end (wb w : g_St) (wd n : Nat) (XK : Nat → r_Pt) (an : List r_An) (tls : List (List Nat)) (np : Nat) (pr : Nat → List r_Row) : Prop := (∃ w3, X_rf wb w3 ∧ w = g_setI w3 448 0 (z_g true)) ∧ an.length ≤ 48 ∧ g_I w 261 261 = Int32.ofNat an.length ∧ (∀ i, i < an.length → ∀ j, j < wd → g_AL w 533 (i * 4 + j) = (an.getD i r_an0).1 j) ∧ (∀ i, i < an.length → g_AI w 148 i = Int32.ofNat ((r_srt (fun x y => decide (r_car wd n XK (an.getD x r_an0) (an.getD y r_an0) < 0)) an.length).getD i 0)) ∧ X_tls w tls ∧ ∀ q, q < np → g_I w 261 (64 * q + 5) = Int32.ofNat (pr q).length
def X_rek (Z : Option ((Int32 ⊕ Nat) × g_St)) (wb : g_St) (wd n : Nat) (XK : Nat → r_Pt) (tls : List (List Nat)) (np : Nat) (pr : Nat → List r_Row) : (List r_An × Nat × Bool) ⊕ Nat → Prop
  | .inr c => ∃ w', Z = some (.inr c, g_bump w' 8 512) ∧ X_rf wb w'
  | .inl a => ∃ w', Z = some (.inl (Int32.ofNat a.1.length), w') ∧ X_end wb w' wd n XK a.1 tls np pr
section
variable {wb w : g_St} {Q np nt : Nat} {P cp tw ca : Nat → Nat} {Xs : Nat → r_Pt} {ua : Nat → Bool} {tbl : Nat → List (Nat → Int64)} {pr : Nat → List r_Row} {st bf : Nat → Nat} {tot : Nat} {so : Nat → Option Nat} {S ow : Nat} {its : List r_It} {ms : List (Nat ⊕ Nat)} {cds : List r_Cd} {lv : Nat → Nat} {rk : Bool} {al mr : Nat} {ks : List (Nat × Nat)} {pp : Nat → Nat} {tls : List (List Nat)}
theorem y_rend (H : X_sq wb Q P np Xs cp ua nt tbl tw ca) (Ra : X_ra wb al mr) (Z : X_sel wb np nt Xs tw so S ow its ms cds lv rk) (h320 : g_R wb 320 0 = some Q) (h256 : g_R wb 256 0 = some 4) (h198 : g_R wb 198 Q = some S) (hi1 : 1 ≤ its.length) (hO : X_or wb so ks) (hks : ∀ k, k < ks.length → (ks.getD k (0, 0)).1 < ms.length ∧ ((ks.getD k (0, 0)).2 ≠ 4 → r_V Xs tw (r_ml ms (ks.getD k (0, 0)).1) (ks.getD k (0, 0)).2 ∧ (ks.getD k (0, 0)).2 ≤ 3) ∧ ((ks.getD k (0, 0)).2 = 4 → r_ml ms (ks.getD k (0, 0)).1 = .inl (pp k))) (ok : r_oks Xs np ms ks pp) (hgk : r_gc its ≠ 0 → ks = []) (R : X_rf wb w) (Y : X_dy w np Xs pr st bf tot) (h261 : g_I w 261 261 = Int32.ofNat 0) (T : X_tls w tls) (hnr : rk = false → ∀ ch, (∀ k, k < ms.length → ch k ∈ r_rs cp ua pr tbl st bf none (r_ml ms k)) → ¬ r_bad its (r_en ch)) : X_rek (r_rend w) wb its.length ks.length (fun k => Xs (pp k)) tls np pr (r_work its al (fun ch v a => r_putA al a (v, ks.map (r_key ch))) (fun a => a.2.2) (r_cbs cp Xs ua pr tbl st bf none ms cds lv) ([], tot, false)) := by
  have q6 := H.1.2.1
  have w3 : ∀ q, q < np → (Xs q).1 ≤ 3 := fun q hq => H.w3 hq
  have O1 : X_or w so ks := hO.ag R.ag (R.2.1 _ _ (by decide) (by decide))
  have o := y_workA (H.rf R) (Ra.rf R) Y (Z.ag R.ag) hi1 h261 O1 hks hgk hnr
  have hkk := fun a h => r_work_inv (its := its) (al := al) (put := fun ch v a => r_putA al a (v, ks.map (r_key ch))) (fo := fun a => a.2.2) (L := r_cbs cp Xs ua pr tbl st bf none ms cds lv) (a0 := ([], tot, false)) (a := a) (fun a => ∀ i, i < a.1.length → ∃ ch, (a.1.getD i r_an0).2 = ks.map (r_key ch)) (fun ch v a ha => r_putA_keys ha) (fun i hi => by cases hi) h
  generalize r_work its al (fun ch v a => r_putA al a (v, ks.map (r_key ch))) (fun a => a.2.2) (r_cbs cp Xs ua pr tbl st bf none ms cds lv) ([], tot, false) = rr at o hkk ⊢
  unfold r_rend
  rw [x_gR, R.2.1 256 _ (by decide) (by decide), h256, x_gR, R.2.1 320 _ (by decide) (by decide), h320, x_gR, R.ag.R (by omega) (by omega) (by decide), h198, x_nn]
  cases rr with
  | inr c =>
    obtain ⟨w', o1, o2⟩ := o
    exact ⟨w', by rw [o1, x_cTr], R.trans o2⟩
  | inl a =>
    obtain ⟨w2, o1, o2, o3, o4, o5⟩ := o
    have R2 := R.trans o2
    have H2 := H.rf R2
    have Ra2 := Ra.rf R2
    obtain ⟨-, ⟨b1, b2, b3⟩, -⟩ := H2
    obtain ⟨-, ⟨-, -, -, -, u1, u2⟩, -⟩ := Ra2
    have a48 := o4.1.2.1
    obtain ⟨s3, g1, g2, g3⟩ := y_sort (w0 := w2) (n := a.1.length) (c := fun x y => r_car its.length ks.length (fun k => Xs (pp k)) (a.1.getD x r_an0) (a.1.getD y r_an0)) b1 b2 (b3 4 (by omega)).1 o4.1.1 u1 u2 (fun s x y F hx hy => y_cmpr (H.rf (R2.trans F.rf)) (Ra.rf (R2.trans F.rf)) (o3.pf w3 F) (Z.ag (R2.trans F.rf).ag) (by rw [(R2.trans F.rf).ag.R (by omega) (by omega) (by decide)]; exact h198) (hO.ag (R2.trans F.rf).ag ((R2.trans F.rf).2.1 _ _ (by decide) (by decide))) ok (o4.pf F) (hkk a rfl) hx hy) a48
    have R3 := R2.trans g2.rf
    rw [o1, x_cTi, x_gR, R2.2.1 256 _ (by decide) (by decide), h256, x_nn, g1, x_c, show ∀ (F : g_St → Option ((Int32 ⊕ Nat) × g_St)), g_pZ s3 448 (some 0) 1 F = g_pZ s3 448 (some 0) (z_g true) F from fun _ => rfl, x_pZ, x_gR, show g_R (g_setI s3 448 0 (z_g true)) 256 0 = some 4 from (by show g_R s3 256 0 = _; rw [R3.2.1 256 _ (by decide) (by decide)]; exact h256), x_gR, show g_R (g_setI s3 448 0 (z_g true)) 4 4 = some 93 from (by show g_R s3 4 4 = _; rw [g2.1.2.2.2.1]; exact b1), show (4 : Int32) = Int32.ofNat 4 from rfl, x_aR (by omega) (by show 4 < g_ln s3 93; rw [g2.1.2.2.2.2.2.2.1]; omega), show g_AR (g_setI s3 448 0 (z_g true)) 93 4 = some 261 from (by show g_AR s3 93 4 = _; rw [g2.1.2.2.2.2.2.1]; exact (b3 4 (by omega)).1), x_gI]
    have i261 : g_I (g_setI s3 448 0 (z_g true)) 261 261 = Int32.ofNat a.1.length := by
      rw [x_Ik (by decide), g2.1.2.2.2.2.2.2.2.1]; exact o4.1.1
    refine ⟨g_setI s3 448 0 (z_g true), by rw [i261], ⟨s3, R3, rfl⟩, a48, i261, fun i hi j hj => ?_, g3, fun n hn => ?_, fun q hq => ?_⟩
    · show g_AL s3 533 _ = _
      rw [g2.1.2.2.2.2.2.2.2.2]; exact o4.1.2.2.1 i hi j hj
    · obtain ⟨t1, t2, t3⟩ := T n hn
      have e84 : g_AI (g_setI s3 448 0 (z_g true)) 84 = g_AI w 84 := by
        show g_AI s3 84 = _
        rw [g2.2 84 (by decide), o5]
      exact ⟨fun i hi => by rw [e84]; exact t1 i hi, by rw [e84]; exact t2, t3⟩
    · rw [x_Ik (by decide), g2.1.2.2.2.2.2.2.2.1]; exact (o3.1 q hq).1.1
end
