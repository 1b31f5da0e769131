/-! RUNNING (engine): a selection is worked for a part, whole -/
section
variable {w : g_St} {Q np nt : Nat} {P cp tw ca : Nat → Nat} {Xs : Nat → r_Pt} {ua : Nat → Bool} {tbl : Nat → List (Nat → Int64)} {pr : Nat → List r_Row} {st bf : Nat → Nat} {tot : Nat} {so : Nat → Option Nat} {S ow : Nat} {its : List r_It} {ms : List (Nat ⊕ Nat)} {cds : List r_Cd} {lv : Nat → Nat} {rk : Bool} {al mr : Nat}
def r_upd (pr : Nat → List r_Row) (p : Nat) (l : List r_Row) : Nat → List r_Row := fun q => if q = p then l else pr q
def r_rsm (cp : Nat → Nat) (ua : Nat → Bool) (pr : Nat → List r_Row) (tbl : Nat → List (Nat → Int64)) (st bf : Nat → Nat) (pc : Option Nat) (ms : List (Nat ⊕ Nat)) (k : Nat) : List r_Row := r_rs cp ua pr tbl st bf pc (r_ml ms k)
theorem r_put_tot {X : r_Pt} {al : Nat} {a : List r_Row × Nat × Bool} {b : r_Row} : a.2.1 ≤ (r_put X al a b).2.1 := by
  unfold r_put
  split
  · exact Nat.le_refl _
  · split
    · exact Nat.le_succ _
    · exact Nat.le_refl _
theorem r_rs_len (Y : X_dy w np Xs pr st bf tot) (H : X_sq w Q P np Xs cp ua nt tbl tw ca) (pc : Option Nat) {m : Nat ⊕ Nat} (h2 : ∀ q, m = .inl q → q < np) (h3 : ∀ t, m = .inr t → t < nt) : (r_rs cp ua pr tbl st bf pc m).length ≤ 48 := by
  obtain ⟨s1, s2⟩ := Y.sz (cp := cp) (ua := ua) (tbl := tbl) pc h2
  obtain ⟨cl, q1, ⟨q2, q3, q4⟩, -⟩ := H.cells Y h2 h3
  have := z_dt_len s2 s1
  unfold r_rs
  omega
theorem y_workP (H : X_sq w Q P np Xs cp ua nt tbl tw ca) (Ra : X_ra w al mr) (Y : X_dy w np Xs pr st bf tot) {p : Nat} (Z : X_sel w np nt Xs tw so S p its ms cds lv rk) (hi1 : 1 ≤ its.length) (hp : p < np) (hwd : its.length = (Xs p).1) (hl99 : ∀ i, i < st p → ((pr p).getD i []).length ≤ 99) (hin : ∀ i z, i < cds.length → cds.getD i r_cd0 = .inr z → r_in cp (some p) z.1 = false) (hnr : rk = false → ∀ ch, (∀ k, k < ms.length → ch k ∈ r_rs cp ua pr tbl st bf (some p) (r_ml ms k)) → ¬ r_bad its (r_en ch)) (hgn : r_gc its ≠ 0 → r_tr (Xs p) = true → ∀ k, k < ms.length → r_ml ms k ≠ .inl p) : X_res (f_Ru_work (some 4) (some S) (Int32.ofNat p) w) (X_rf w) (fun w' a => X_dy w' np Xs (r_upd pr p a.1) st bf a.2.1 ∧ (∃ t, a.1 = pr p ++ t) ∧ g_I w' 261 261 = g_I w 261 261 ∧ g_AI w' 84 = g_AI w 84) (r_work its al (fun ch v a => r_put (Xs p) al a (r_nrow (Xs p) v (r_par ms p ch))) (fun a => a.2.2) (r_cbs cp Xs ua pr tbl st bf (some p) ms cds lv) (pr p, tot, false)) := by
  obtain ⟨w0, k1, k2, Y0, C, rn, k4, k5, k6, k7, k8, -, -, k11, k12⟩ := y_wbind H Ra Y Z hi1 (pc := some p) (Or.inl ⟨hp, rfl⟩) (n0 := (pr p).length) (fun _ => rfl) hin
  have np4 := H.1.2.2.2.1
  have p5 : p < 5 := by omega
  have H0 := H.rf k2
  have Ra0 := Ra.rf k2
  have Z0 := Z.ag k2.ag
  have w3 := H.w3 hp
  obtain ⟨⟨a1, a2, a3, a4, PA, a5, a6, a7, a8⟩, ⟨b1, b2, b3⟩, -⟩ := H0
  have PT := (a8 p hp).2.1
  have FX := (b3 p p5).2
  obtain ⟨⟨z1, z2, z3, z4, z5, z6, z7, z8, z9⟩, ⟨z10, z11⟩, ⟨A, c1, c2, c3, c4⟩, d1, d2, -⟩ := Z0
  obtain ⟨l1, l2, l3, l4, l5, l6⟩ := Y0.1 p hp
  obtain ⟨⟨r1, r2, r3, r4, r5, r6⟩, -, x1, x2, -, -, x3, x4⟩ := Ra0
  -- a row comes
  have come : ∀ w' a ch vals, X_wf p (pr p).length w0 w' → (X_ac w' p (Xs p) al a ∧ (∃ t, a.1 = pr p ++ t) ∧ tot ≤ a.2.1) → (r_tr (Xs p) = true → ∀ m, m < ms.length → r_ml ms m = .inl p → ∃ r j, so m = some r ∧ g_I w' 713 r = Int32.ofNat (r_frm cp ua bf (some p) (r_ml ms m) + j) ∧ j < (r_rs cp ua pr tbl st bf (some p) (r_ml ms m)).length ∧ (r_rs cp ua pr tbl st bf (some p) (r_ml ms m)).getD j [] = ch m) → (∀ i, i < its.length → g_AL w' 149 i = vals i) → ∃ w'' m, (pr p).length ≤ m ∧ f_Ru_come (some 4) w' = some ((), w'') ∧ X_fm p m w' w'' ∧ X_ac w'' p (Xs p) al (r_put (Xs p) al a (r_nrow (Xs p) vals (r_par ms p ch))) ∧ (∃ t, (r_put (Xs p) al a (r_nrow (Xs p) vals (r_par ms p ch))).1 = pr p ++ t) ∧ tot ≤ (r_put (Xs p) al a (r_nrow (Xs p) vals (r_par ms p ch))).2.1 := by
    rintro w' a ch vals F ⟨hA, ⟨t, ht⟩, htt⟩ hE hv
    have R : ∀ k c, g_R w' k c = g_R w0 k c := fun k c => by rw [F.1.2.2.2.1]
    have FX' : X_fx w' p := by
      unfold X_fx at FX ⊢
      rw [F.1.2.2.2.1, F.1.2.2.2.2.2.2]; exact FX
    have hlen : (pr p).length ≤ a.1.length := by rw [ht, List.length_append]; omega
    have cm := y_come (w := w') (P := P p) (S := S) (X := Xs p) (vals := vals) (al := al) (a := a) (par := r_par ms p ch) p5 (PT.ag F.ag) FX' (by rw [R]; exact rn.1) z1 (by rw [F.ag.I (by omega) (by omega) (by decide), z10.2.1, hwd]) (by rw [R]; exact k4) (by rw [R]; exact k5) (by rw [R]; exact r1) (by rw [F.1.2.2.2.2.2.2]; exact r2) (fun j hj => hv j (by omega)) hA (fun htr => by
      -- where its parent stands
      have yp : ∀ s, X_fm p a.1.length w' s → (∀ k c, g_I s k c = g_I w' k c) → f_Ru_parentRow (some 4) s = some (match z_ff (fun m => decide (ms.getD m (.inl 0) = .inl p)) ms.length 0 with | none => -1 | some m => match so m with | none => -1 | some r => g_I s 713 r, s) := fun s Fs hI => by
        have G : E_ag w0 s := F.ag.trans Fs.ag
        have aA := G.2 A (by omega) (by omega)
        refine y_par (S := S) (A := A) (ow := p) (by rw [Fs.1.2.2.2.1, R]; exact rn.1) (by rw [G.I (by omega) (by omega) (by decide)]; exact z2) z3 (by rw [G.R (by omega) (by omega) (by decide)]; exact c1) (by rw [aA.2]; exact c3) (by rw [G.I (by omega) (by omega) (by decide)]; exact z7) (by omega) (fun m hm => ?_)
        obtain ⟨r, s1, s2, s3⟩ := c4 m hm
        exact ⟨r, s1, by rw [aA.1]; exact s2, (s3.ag G).2.1, fun k hk => by have := s3.2.2.1 k hk; omega⟩
      cases hz : z_ff (fun m => decide (ms.getD m (.inl 0) = .inl p)) ms.length 0 with
      | none =>
        refine ⟨-1, fun s Fs hI => by rw [yp s Fs hI, hz], ?_, fun k hk e => absurd e.symm (x_nm1 (by have := hA.1.2.1; omega)), ?_⟩
        · unfold r_par; rw [show z_ff (fun m => decide (r_ml ms m = .inl p)) ms.length 0 = none from hz]; rfl
        · unfold r_par; rw [show z_ff (fun m => decide (r_ml ms m = .inl p)) ms.length 0 = none from hz]; exact Nat.zero_le _
      | some m =>
        obtain ⟨f1, f2, f3, f4⟩ := z_ff_some hz
        have hm : m < ms.length := by omega
        have em : r_ml ms m = .inl p := by
          have : decide (ms.getD m (.inl 0) = .inl p) = true := by assumption
          exact of_decide_eq_true this
        obtain ⟨r, j, e1, e2, e3, e4⟩ := hE htr m hm em
        have rin : r_in cp (some p) (.inl p) = true := decide_eq_true rfl
        have ep : r_par ms p ch = ch m := by unfold r_par; rw [show z_ff (fun m => decide (r_ml ms m = .inl p)) ms.length 0 = some m from hz]
        rw [em] at e2 e3 e4
        have to : r_to cp pr tbl st (some p) (.inl p) = st p := by rw [r_to_l, rin, if_pos rfl]
        obtain ⟨s1, s2⟩ := Y.sz (cp := cp) (ua := ua) (tbl := tbl) (some p) (m := .inl p) (fun q hq => by cases hq; exact hp)
        have lnn := z_dt_len s2 s1
        rw [to] at lnn
        unfold r_rs at e3 e4
        rw [to] at e3 e4
        obtain ⟨x, hx⟩ : ∃ x, x = r_frm cp ua bf (some p) (.inl p) + j := ⟨_, rfl⟩
        have xst : x < st p := by omega
        rw [z_dt_get (by omega), ← hx] at e4
        have e4' : (pr p).getD x [] = ch m := e4
        rw [← hx] at e2
        have eA : a.1.getD x [] = ch m := by
          rw [ht, List.getD_eq_getElem?_getD, List.getElem?_append_left (by omega), ← List.getD_eq_getElem?_getD]; exact e4'
        obtain ⟨y1, y2, y3, y4⟩ := hA.1
        obtain ⟨v1, v2, v3⟩ := y4 htr x (by omega)
        rw [eA] at v1 v2
        refine ⟨Int32.ofNat x, fun s Fs hI => by rw [yp s Fs hI, hz]; simp only [e1]; rw [hI, e2], by rw [ep]; exact v1, fun k hk e => ?_, by rw [ep, ← e4']; exact hl99 x xst⟩
        rw [x_eq (by omega) (by omega)] at e
        rw [← e, ep]
        exact v2)
    obtain ⟨w'', g1, g2, g3⟩ := cm
    exact ⟨w'', a.1.length, hlen, g1, g2, g3, r_put_pre ⟨t, ht⟩, Nat.le_trans htt r_put_tot⟩
  have lL : (r_cbs cp Xs ua pr tbl st bf (some p) ms cds lv).length < 2 ^ 30 := by
    -- slots behind the last are not asked for
    have e : r_cbs cp Xs ua pr tbl st bf (some p) ms cds lv = r_cl (r_tb pr tbl) cds lv (fun k => if k < ms.length then r_pk (r_mkd cp Xs (some p) (r_ml ms k)) (r_rs cp ua pr tbl st bf (some p) (r_ml ms k)) else []) ms.length 0 (fun _ => []) := by
      have key : ∀ (d l : Nat) (ch : Nat → r_Row), l + d ≤ ms.length → r_cl (r_tb pr tbl) cds lv (fun k => r_pk (r_mkd cp Xs (some p) (r_ml ms k)) (r_rs cp ua pr tbl st bf (some p) (r_ml ms k))) d l ch = r_cl (r_tb pr tbl) cds lv (fun k => if k < ms.length then r_pk (r_mkd cp Xs (some p) (r_ml ms k)) (r_rs cp ua pr tbl st bf (some p) (r_ml ms k)) else []) d l ch := by
        intro d
        induction d with
        | zero => intro l ch _; rfl
        | succ d ih =>
          intro l ch hl
          unfold r_cl
          rw [if_pos (show l < ms.length by omega)]
          congr 1
          exact congrArg (fun f => List.flatMap f _) (funext fun a => ih (l + 1) _ (by omega))
      exact key ms.length 0 _ (by omega)
    rw [e]
    have := r_cl_len (r_tb pr tbl) cds lv (fun k => if k < ms.length then r_pk (r_mkd cp Xs (some p) (r_ml ms k)) (r_rs cp ua pr tbl st bf (some p) (r_ml ms k)) else []) (fun k => by
      by_cases hk : k < ms.length
      · rw [if_pos hk]
        obtain ⟨r, s1, s2, s3⟩ := c4 k hk
        exact Nat.le_trans (List.length_filter_le _ _) (r_rs_len Y H (some p) s3.2.2.1 (fun t ht => (s3.2.2.2 t ht).1))
      · rw [if_neg hk]; exact Nat.zero_le _) ms.length 0 (fun _ => [])
    have : 48 ^ ms.length ≤ 48 ^ 3 := Nat.pow_le_pow_right (by decide) z3
    omega
  have hso : ∀ k r, so k = some r → r % 64 = 9 := fun k r hr => by
    by_cases hk : k < ms.length
    · obtain ⟨r', s1, s2, s3⟩ := c4 k hk
      rw [s1] at hr
      cases hr
      exact s3.1
    · rw [d1 k (by omega)] at hr; cases hr
  have res := y_wend (α := List r_Row × Nat × Bool) (Rel0 := fun w' a => X_ac w' p (Xs p) al a ∧ (∃ t, a.1 = pr p ++ t) ∧ tot ≤ a.2.1) (put := fun ch v a => r_put (Xs p) al a (r_nrow (Xs p) v (r_par ms p ch))) (fo := fun a => a.2.2) (al := al) C z10 z11 rn z9 x1 x2 k6 k8 ⟨x3, x4⟩ (fun w' a h => h.1.2.2.2.2.2.2) (fun ch v a h => r_put_mono h) (fun s s' a f h => ⟨h.1.sf w3 p5 f, h.2⟩) hnr (fun w' a ch vals _ F hR E hv => come w' a ch vals F hR (fun _ m hm em => by
    obtain ⟨r, j, e1, e2, e3, e4⟩ := E m hm
    exact ⟨r, j, e1, e2, e3, e4⟩) hv) (fun w' a vals gz F hR hv => come w' a (fun _ => []) vals F hR (fun htr m hm em => absurd em (hgn gz htr m hm)) hv) hso (a0 := (pr p, tot, false)) ⟨⟨l1, Y0.2.1, x1, x2, l6, Y0.2.2, k7⟩, ⟨[], (List.append_nil _).symm⟩, Nat.le_refl _⟩ rfl (ch0 := fun _ => []) (L := r_cbs cp Xs ua pr tbl st bf (some p) ms cds lv) rfl lL
  rw [k1]
  generalize r_work its al (fun ch v a => r_put (Xs p) al a (r_nrow (Xs p) v (r_par ms p ch))) (fun a => a.2.2) (r_cbs cp Xs ua pr tbl st bf (some p) ms cds lv) (pr p, tot, false) = rr at res ⊢
  cases rr with
  | inr c =>
    obtain ⟨w', g1, g2⟩ := res
    exact ⟨w', g1, k2.trans (g2.rf p5)⟩
  | inl a =>
    obtain ⟨w', g1, g2, g3, g4, g5⟩ := res
    refine ⟨w', g1, k2.trans (g2.rf p5), ⟨fun q hq => ?_, g3.2.1, g3.2.2.2.2.2.1⟩, g4, by rw [g2.2.1 _ _ (by decide) (fun z => by have := z.2; omega) (by decide)]; exact k11 _ _ (by decide), by rw [← k12]; exact funext fun i => g2.2.2.2 _ i (fun z => by have := z.1; omega) (by decide)⟩
    obtain ⟨m1, m2, m3, m4, m5, m6⟩ := Y0.1 q hq
    have I : ∀ k, k ≠ 713 → k ≠ 261 → g_I w' k (64 * q + 5) = g_I w0 k (64 * q + 5) := fun k h1 h2 => g2.2.1 _ _ h1 (fun z => h2 z.1) (fun z => by have := z.1; omega)
    by_cases e : q = p
    · unfold r_upd
      rw [if_pos e, e]
      rw [e] at I m2 m3 m4 m5
      obtain ⟨t, ht⟩ := g4
      exact ⟨g3.1, by rw [I _ (by decide) (by decide)]; exact m2, by rw [I _ (by decide) (by decide)]; exact m3, m4, by rw [ht, List.length_append]; omega, g3.2.2.2.2.1⟩
    · unfold r_upd
      rw [if_neg e]
      refine ⟨m1.eq (H.w3 hq) (g2.2.1 _ _ (by decide) (fun z => e (by have := z.2; omega)) (fun z => by have := z.1; omega)) (funext fun i => g2.2.2.1 _ i (fun z => e (by have := z.1; omega)) (by omega) (by omega) (by omega)) (funext fun i => g2.2.2.2 _ i (fun z => e (by have := z.1; omega)) (by omega)) (funext fun i => g2.2.2.2 _ i (fun z => e (by have := z.1; omega)) (by omega)), by rw [I _ (by decide) (by decide)]; exact m2, by rw [I _ (by decide) (by decide)]; exact m3, m4, m5, Nat.le_trans m6 g5⟩
end
