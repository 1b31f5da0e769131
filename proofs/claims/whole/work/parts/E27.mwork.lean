/-! RUNNING (reference): a selection is worked out, whatever its rows come to -/
section
variable {α : Type} {Rel : g_St → α → Prop} {put : (Nat → r_Row) → (Nat → Int64) → α → α} {fo : α → Bool} {np nt : Nat} {Xs : Nat → r_Pt} {tw : Nat → Nat} {tbl : Nat → List (Nat → Int64)} {tb : (Nat ⊕ Nat) → List (Nat → Int64)} {s al : Nat} {its : List r_It} {ms : List (Nat ⊕ Nat)} {cds : List r_Cd} {C : Nat → List Nat} {rs : Nat → List r_Row}
/-- what the sink gives -/
def M_sk1 (Rel : g_St → α → Prop) (np nt : Nat) (Xs : Nat → r_Pt) (tw : Nat → Nat) (tbl : Nat → List (Nat → Int64)) (tb : (Nat ⊕ Nat) → List (Nat → Int64)) (s al : Nat) (its : List r_It) (ms : List (Nat ⊕ Nat)) (cds : List r_Cd) (C : Nat → List Nat) (rs : Nat → List r_Row) : Prop := ∀ w a, Rel w a → g_I w 1 1 = 0 ∧ g_I w 5441 1 = Int32.ofNat al ∧ M_sl w np nt Xs tw s its ms cds ∧ M_cst w Xs tw ms C rs ∧ ∃ P, M_st w np nt Xs tw tbl P ∧ ∀ env, r_cda (r_tb (M_pr P) tbl) cds env = r_cda tb cds env
def M_sk2 (Rel : g_St → α → Prop) : Prop := ∀ w w' a, z_W [6337] [1109, 1173, 4692, 4756] w w' → Rel w a → Rel w' a
def M_bad (np nt : Nat) (Xs : Nat → r_Pt) (tw : Nat → Nat) (s : Nat) (its : List r_It) (ms : List (Nat ⊕ Nat)) (cds : List r_Cd) (C : Nat → List Nat) (rs : Nat → List r_Row) (w : g_St) : Prop := g_I w 1 1 = 4 ∧ m_Fix w ∧ M_sl w np nt Xs tw s its ms cds ∧ M_cst w Xs tw ms C rs
def M_sk3 (Rel : g_St → α → Prop) (put : (Nat → r_Row) → (Nat → Int64) → α → α) (fo : α → Bool) (np nt : Nat) (Xs : Nat → r_Pt) (tw : Nat → Nat) (s : Nat) (its : List r_It) (ms : List (Nat ⊕ Nat)) (cds : List r_Cd) (C : Nat → List Nat) (rs : Nat → List r_Row) : Prop := ∀ w a p, Rel w a → fo a = false → (∀ k, k < ms.length → p k < (rs k).length) → (∀ k, k < ms.length → g_AI w 4756 k = Int32.ofNat ((C k).getD (p k) 0)) → (∀ k j, M_dd Xs tw ms k j → M_vb w (M_mm Xs ms) (r_en (r_pc rs ms.length p)) k j) → ∃ w', f_M_bring (some 1) (Int32.ofNat s) (-1) w = some ((), w') ∧ g_AI w' 4692 = g_AI w 4692 ∧ (fo (put (r_pc rs ms.length p) (r_iv its (r_en (r_pc rs ms.length p))) a) = true → M_bad np nt Xs tw s its ms cds C rs w') ∧ (fo (put (r_pc rs ms.length p) (r_iv its (r_en (r_pc rs ms.length p))) a) = false → Rel w' (put (r_pc rs ms.length p) (r_iv its (r_en (r_pc rs ms.length p))) a))
def M_sk4 (Rel : g_St → α → Prop) (put : (Nat → r_Row) → (Nat → Int64) → α → α) (fo : α → Bool) (s : Nat) (its : List r_It) : Prop := ∀ w a N gs g, Rel w a → fo a = false → M_gr w its N gs → g < gs.length → ∃ w', f_M_bring (some 1) (Int32.ofNat s) (Int32.ofNat g) w = some ((), w') ∧ M_gr w' its N gs ∧ (fo (put (fun _ => []) (r_gv its (gs.getD g r_gp0)) a) = true → g_I w' 1 1 = 4) ∧ (fo (put (fun _ => []) (r_gv its (gs.getD g r_gp0)) a) = false → Rel w' (put (fun _ => []) (r_gv its (gs.getD g r_gp0)) a))
theorem z_fold_fo {β : Type} {step : α → β → α} {fo : α → Bool} (h : ∀ a b, fo a = true → fo (step a b) = true) : ∀ (l : List β) (a : α), fo a = true → fo (l.foldl step a) = true := by
  intro l
  induction l with
  | nil => intro a ha; exact ha
  | cons b l ih => intro a ha; exact ih _ (h a b ha)
/-- the combinations come, one after the other -/
theorem m_l164 (h1 : M_sk1 Rel np nt Xs tw tbl tb s al its ms cds C rs) (h2 : M_sk2 Rel) (h3 : M_sk3 Rel put fo np nt Xs tw s its ms cds C rs) (hm : ∀ e v a, fo a = true → fo (put e v a) = true) : ∀ (R : List (Nat → Nat)) (p : Nat → Nat) (f : Nat) (w : g_St) (a : α), R = r_rest (fun k => (rs k).length) ms.length 0 p → (∀ k, k < ms.length → p k < (rs k).length) → R.length + 1 < f → M_pk w ms.length p → Rel w a → fo a = false → ∃ w', f_M_workOut_164 f (some 1) (Int32.ofNat s) 1 w = some ((), w') ∧ (fo ((r_mt tb cds rs ms.length (p :: R)).foldl (fun a e => put e (r_iv its (r_en e)) a) a) = true → g_I w' 1 1 = 4) ∧ (fo ((r_mt tb cds rs ms.length (p :: R)).foldl (fun a e => put e (r_iv its (r_en e)) a) a) = false → Rel w' ((r_mt tb cds rs ms.length (p :: R)).foldl (fun a e => put e (r_iv its (r_en e)) a) a)) := by
  intro R
  induction R with
  | nil =>
    intro p f w a hR hb hf hp hr hfo
    obtain ⟨f, rfl⟩ : ∃ m, f = m + 1 := ⟨f - 1, by omega⟩
    obtain ⟨f, rfl⟩ : ∃ m, f = m + 1 := ⟨f - 1, by have : ([] : List (Nat → Nat)).length = 0 := rfl; omega⟩
    obtain ⟨c0, -, L, G, P, S, hcd⟩ := h1 w a hr
    obtain ⟨w2, m1, m2, m3, m4⟩ := m_pick S L G hp hb
    rw [hcd] at m1
    have r2 : Rel w2 a := h2 w w2 a (m2.mono (by decide) (by decide)) hr
    have nx : ∀ w3, m_Fix w3 → M_sl w3 np nt Xs tw s its ms cds → M_cst w3 Xs tw ms C rs → M_pk w3 ms.length p → ∃ w4, f_M_workOut_190 (f_M_workOut_164 (f + 1)) (some 1) (Int32.ofNat s) w3 = some ((), w4) ∧ z_W [] [4692] w3 w4 := fun w3 F3 L3 G3 p3 => by
      obtain ⟨w4, n1, n2, n3⟩ := m_step F3 L3 G3 p3 hb
      rw [← hR] at n1
      refine ⟨w4, ?_, n2⟩
      unfold f_M_workOut_190
      rw [x_nn, n1, x_c]
      show f_M_workOut_164 (f + 1) (some 1) (Int32.ofNat s) 0 w4 = _
      rw [f_M_workOut_164, if_pos rfl]
    rw [f_M_workOut_164, if_neg (by decide), x_gI, c0, if_pos rfl, x_nn, m1, x_c]
    cases hc : r_cda tb cds (r_en (r_pc rs ms.length p)) with
    | false =>
      rw [if_pos (show z_g false = 0 from rfl), r_mt_f hc]
      obtain ⟨-, -, L2, G2, P2, S2, -⟩ := h1 w2 a r2
      obtain ⟨w4, n1, n2⟩ := nx w2 S2.1 L2 G2 (hp.mv m2 (by decide))
      refine ⟨w4, n1, fun q => ?_, fun _ => h2 w2 w4 a (n2.mono (by decide) (by decide)) r2⟩
      have q' : fo a = true := q
      rw [hfo] at q'; cases q'
    | true =>
      rw [if_neg (show ¬ z_g true = 0 from by decide), r_mt_t hc, List.foldl_cons]
      obtain ⟨w3, b1, b2, b3, b4⟩ := h3 w2 a p r2 hfo hb m3 m4
      rw [x_nn, b1, x_c]
      have p3 : M_pk w3 ms.length p := fun k hk => by rw [b2]; exact (hp.mv m2 (by decide)) k hk
      show ∃ w', _ ∧ (fo (put (r_pc rs ms.length p) (r_iv its (r_en (r_pc rs ms.length p))) a) = true → _) ∧ (fo (put (r_pc rs ms.length p) (r_iv its (r_en (r_pc rs ms.length p))) a) = false → Rel w' (put (r_pc rs ms.length p) (r_iv its (r_en (r_pc rs ms.length p))) a))
      cases hfo2 : fo (put (r_pc rs ms.length p) (r_iv its (r_en (r_pc rs ms.length p))) a) with
      | true =>
        obtain ⟨d1, d2, d3, d4⟩ := b3 hfo2
        obtain ⟨w4, n1, n2⟩ := nx w3 d2 d3 d4 p3
        exact ⟨w4, n1, fun _ => by rw [n2.fi (by decide)]; exact d1, fun q => by cases q⟩
      | false =>
        have r3 := b4 hfo2
        obtain ⟨-, -, L3, G3, P3, S3, -⟩ := h1 w3 _ r3
        obtain ⟨w4, n1, n2⟩ := nx w3 S3.1 L3 G3 p3
        exact ⟨w4, n1, fun q => (by cases q), fun _ => h2 w3 w4 _ (n2.mono (by decide) (by decide)) r3⟩
  | cons p' R ih =>
    intro p f w a hR hb hf hp hr hfo
    obtain ⟨f, rfl⟩ : ∃ m, f = m + 1 := ⟨f - 1, by omega⟩
    have hl0 : (p' :: R).length = R.length + 1 := rfl
    obtain ⟨c0, -, L, G, P, S, hcd⟩ := h1 w a hr
    obtain ⟨w2, m1, m2, m3, m4⟩ := m_pick S L G hp hb
    rw [hcd] at m1
    have r2 : Rel w2 a := h2 w w2 a (m2.mono (by decide) (by decide)) hr
    have nx : ∀ w3, m_Fix w3 → M_sl w3 np nt Xs tw s its ms cds → M_cst w3 Xs tw ms C rs → M_pk w3 ms.length p → ∃ w4, f_M_workOut_190 (f_M_workOut_164 f) (some 1) (Int32.ofNat s) w3 = f_M_workOut_164 f (some 1) (Int32.ofNat s) 1 w4 ∧ z_W [] [4692] w3 w4 ∧ M_pk w4 ms.length p' ∧ R = r_rest (fun k => (rs k).length) ms.length 0 p' ∧ ∀ k, k < ms.length → p' k < (rs k).length := fun w3 F3 L3 G3 p3 => by
      obtain ⟨w4, n1, n2, n3⟩ := m_step F3 L3 G3 p3 hb
      have n4 := n3 p' R hR.symm
      rw [← hR] at n1
      refine ⟨w4, ?_, n2, n4⟩
      unfold f_M_workOut_190
      rw [x_nn, n1, x_c]
      rfl
    rw [f_M_workOut_164, if_neg (by decide), x_gI, c0, if_pos rfl, x_nn, m1, x_c]
    cases hc : r_cda tb cds (r_en (r_pc rs ms.length p)) with
    | false =>
      rw [if_pos (show z_g false = 0 from rfl), r_mt_f hc]
      obtain ⟨-, -, L2, G2, P2, S2, -⟩ := h1 w2 a r2
      obtain ⟨w4, n1, n2, n3, n4, n5⟩ := nx w2 S2.1 L2 G2 (hp.mv m2 (by decide))
      rw [n1]
      exact ih p' f w4 a n4 n5 (by omega) n3 (h2 w2 w4 a (n2.mono (by decide) (by decide)) r2) hfo
    | true =>
      rw [if_neg (show ¬ z_g true = 0 from by decide), r_mt_t hc, List.foldl_cons]
      obtain ⟨w3, b1, b2, b3, b4⟩ := h3 w2 a p r2 hfo hb m3 m4
      rw [x_nn, b1, x_c]
      have p3 : M_pk w3 ms.length p := fun k hk => by rw [b2]; exact (hp.mv m2 (by decide)) k hk
      cases hfo2 : fo (put (r_pc rs ms.length p) (r_iv its (r_en (r_pc rs ms.length p))) a) with
      | true =>
        obtain ⟨d1, d2, d3, d4⟩ := b3 hfo2
        obtain ⟨w4, n1, n2, n3, n4, n5⟩ := nx w3 d2 d3 d4 p3
        have ft := z_fold_fo (step := fun a e => put e (r_iv its (r_en e)) a) (fun a e h => hm e _ a h) (r_mt tb cds rs ms.length (p' :: R)) _ hfo2
        obtain ⟨f, rfl⟩ : ∃ m, f = m + 1 := ⟨f - 1, by omega⟩
        refine ⟨w4, ?_, fun _ => by rw [n2.fi (by decide)]; exact d1, fun q => ?_⟩
        · rw [n1, f_M_workOut_164, if_neg (by decide), x_gI, n2.fi (by decide), d1, if_neg (by decide)]
        · rw [ft] at q; cases q
      | false =>
        have r3 := b4 hfo2
        obtain ⟨-, -, L3, G3, P3, S3, -⟩ := h1 w3 _ r3
        obtain ⟨w4, n1, n2, n3, n4, n5⟩ := nx w3 S3.1 L3 G3 p3
        rw [n1]
        exact ih p' f w4 _ n4 n5 (by omega) n3 (h2 w3 w4 _ (n2.mono (by decide) (by decide)) r3) hfo2
/-- the groups come, one after the other -/
theorem m_l127 (h1 : M_sk1 Rel np nt Xs tw tbl tb s al its ms cds C rs) (h4 : M_sk4 Rel put fo s its) (hm : ∀ e v a, fo a = true → fo (put e v a) = true) {N : Nat} {gs : List r_Gp} (hgs : gs.length ≤ 48) : ∀ (d g f : Nat) (w : g_St) (a : α), g + d = gs.length → d < f → M_gr w its N gs → Rel w a → fo a = false → ∃ w', f_M_workOut_127 f (some 1) (Int32.ofNat s) (Int32.ofNat g) w = some ((), w') ∧ (fo ((gs.drop g).foldl (fun a g => put (fun _ => []) (r_gv its g) a) a) = true → g_I w' 1 1 = 4) ∧ (fo ((gs.drop g).foldl (fun a g => put (fun _ => []) (r_gv its g) a) a) = false → Rel w' ((gs.drop g).foldl (fun a g => put (fun _ => []) (r_gv its g) a) a)) := by
  intro d
  induction d with
  | zero =>
    intro g f w a e1 e2 hg hr hfo
    obtain ⟨f, rfl⟩ : ∃ m, f = m + 1 := ⟨f - 1, by omega⟩
    rw [f_M_workOut_127, x_gI, hg.1, if_pos (by rw [x_le (by omega) (by omega)]; omega), List.drop_eq_nil_of_le (by omega)]
    refine ⟨w, rfl, fun q => ?_, fun _ => hr⟩
    have q' : fo a = true := q
    rw [hfo] at q'; cases q'
  | succ d ih =>
    intro g f w a e1 e2 hg hr hfo
    obtain ⟨f, rfl⟩ : ∃ m, f = m + 1 := ⟨f - 1, by omega⟩
    have hgl : g < gs.length := by omega
    have hdr : gs.drop g = gs.getD g r_gp0 :: gs.drop (g + 1) := by
      rw [List.getD_eq_getElem?_getD, List.getElem?_eq_getElem hgl]
      exact List.drop_eq_getElem_cons hgl
    obtain ⟨c0, -⟩ := h1 w a hr
    obtain ⟨w3, b1, b2, b3, b4⟩ := h4 w a N gs g hr hfo hg hgl
    rw [f_M_workOut_127, x_gI, hg.1, if_neg (by rw [x_le (by omega) (by omega)]; omega), x_gI, c0, if_pos rfl, x_nn, b1, x_c, x_p1, hdr, List.foldl_cons]
    cases hfo2 : fo (put (fun _ => []) (r_gv its (gs.getD g r_gp0)) a) with
    | true =>
      have d1 := b3 hfo2
      have ft := z_fold_fo (step := fun a g => put (fun _ => []) (r_gv its g) a) (fun a g h => hm _ _ a h) (gs.drop (g + 1)) _ hfo2
      obtain ⟨f, rfl⟩ : ∃ m, f = m + 1 := ⟨f - 1, by omega⟩
      refine ⟨w3, ?_, fun _ => d1, fun q => ?_⟩
      · rw [f_M_workOut_127, x_gI, b2.1]
        by_cases q : gs.length ≤ g + 1
        · rw [if_pos (by rw [x_le (by omega) (by omega)]; exact q)]
        · rw [if_neg (by rw [x_le (by omega) (by omega)]; exact q), x_gI, d1, if_neg (by decide)]
      · rw [ft] at q; cases q
    | false =>
      exact ih (g + 1) f w3 _ (by omega) (by omega) b2 (b4 hfo2) hfo2
end
