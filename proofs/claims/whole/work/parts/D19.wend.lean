/-! RUNNING (engine): a selection is worked, whatever its rows come to -/
def r_iv (its : List r_It) (env : Nat → Nat → Int64) : Nat → Int64 := fun i => r_val env (its.getD i r_it0).2
def r_badb (its : List r_It) (env : Nat → Nat → Int64) : Bool := (List.range its.length).any fun i => decide ((its.getD i r_it0).1 = 0) && r_oor (r_val env (its.getD i r_it0).2)
def r_gbadb (n : Nat) (gs : List r_Gp) : Bool := (List.range gs.length).any fun g => (List.range n).any fun i => (gs.getD g r_gp0).2 i && (decide ((gs.getD g r_gp0).1 i = r_N) || r_oor ((gs.getD g r_gp0).1 i))
theorem r_badb_iff (its : List r_It) (env : Nat → Nat → Int64) : r_badb its env = true ↔ r_bad its env := by
  unfold r_badb r_bad
  rw [List.any_eq_true]
  constructor
  · rintro ⟨i, h1, h2⟩
    rw [Bool.and_eq_true, decide_eq_true_eq] at h2
    exact ⟨i, List.mem_range.mp h1, h2⟩
  · rintro ⟨i, h1, h2⟩
    exact ⟨i, List.mem_range.mpr h1, by rw [Bool.and_eq_true, decide_eq_true_eq]; exact h2⟩
theorem r_gbadb_iff (n : Nat) (gs : List r_Gp) : r_gbadb n gs = true ↔ r_gbad n gs := by
  unfold r_gbadb r_gbad r_gb1
  rw [List.any_eq_true]
  constructor
  · rintro ⟨g, h1, h2⟩
    rw [List.any_eq_true] at h2
    obtain ⟨i, h3, h4⟩ := h2
    rw [Bool.and_eq_true, Bool.or_eq_true, decide_eq_true_eq] at h4
    exact ⟨g, List.mem_range.mp h1, i, List.mem_range.mp h3, h4⟩
  · rintro ⟨g, h1, i, h3, h4⟩
    refine ⟨g, List.mem_range.mpr h1, ?_⟩
    rw [List.any_eq_true]
    exact ⟨i, List.mem_range.mpr h3, by rw [Bool.and_eq_true, Bool.or_eq_true, decide_eq_true_eq]; exact h4⟩
def r_gs0 (its : List r_It) : List r_Gp := if r_gc its = its.length then [r_g1 its r_c0] else []
def r_gfold (its : List r_It) (al : Nat) (L : List (Nat → r_Row)) : List r_Gp × Bool := L.foldl (fun g e => r_gat its al (r_en e) (r_iv its (r_en e)) g) (r_gs0 its, false)
section
variable {α : Type}
/-- the combinations L of a selection come to a -/
def r_work (its : List r_It) (al : Nat) (put : (Nat → r_Row) → (Nat → Int64) → α → α) (fo : α → Bool) (L : List (Nat → r_Row)) (a : α) : α ⊕ Nat :=
  if (L.any fun e => r_badb its (r_en e)) = true then .inr 2
  else if r_gc its = 0 then (if fo (L.foldl (fun a e => put e (r_iv its (r_en e)) a) a) = true then .inr 3 else .inl (L.foldl (fun a e => put e (r_iv its (r_en e)) a) a))
  else if (r_gfold its al L).2 = true then .inr 3
  else if r_gbadb its.length (r_gfold its al L).1 = true then .inr 2
  else if fo ((r_gfold its al L).1.foldl (fun a g => put (fun _ => []) (r_gv its g) a) a) = true then .inr 3 else .inl ((r_gfold its al L).1.foldl (fun a g => put (fun _ => []) (r_gv its g) a) a)
def X_res (Z : Option ((Unit ⊕ Nat) × g_St)) (Fr : g_St → Prop) (OK : g_St → α → Prop) : α ⊕ Nat → Prop
  | .inl a => ∃ w', Z = some (.inl (), w') ∧ Fr w' ∧ OK w' a
  | .inr c => ∃ w', Z = some (.inr c, g_bump w' 8 512) ∧ Fr w'
/-- what a sink does not look at -/
def X_sf (w w' : g_St) : Prop := (g_cnt w' = g_cnt w ∧ g_cn w' = g_cn w ∧ g_sn w' = g_sn w ∧ g_R w' = g_R w ∧ g_L w' = g_L w ∧ g_AR w' = g_AR w ∧ g_ln w' = g_ln w) ∧ (∀ k a, k ≠ 713 → ¬ (a = 4 ∧ (k = 964 ∨ k = 1028)) → g_I w' k a = g_I w k a) ∧ (∀ a i, a ≠ 213 → a ≠ 149 → g_AL w' a i = g_AL w a i) ∧ ∀ a i, a ≠ 212 → g_AI w' a i = g_AI w a i
theorem X_i9.sf {w w' : g_St} (h : X_i9 w w') : X_sf w w' := ⟨h.1, fun k a _ _ => by rw [h.2.1], fun a i _ x => h.2.2.2 a i x, fun a i _ => by rw [h.2.2.1]⟩
theorem X_gf.sf {w w' : g_St} (h : X_gf w w') : X_sf w w' := ⟨h.1, fun k a _ x => h.2.1 k a x, fun a i x _ => h.2.2.1 a i x, fun a i x => h.2.2.2 a i x⟩
theorem X_sf.at {w : g_St} (r : Nat) (x : Int32) : X_sf w (g_setI w 713 r x) := ⟨⟨rfl, rfl, rfl, rfl, rfl, rfl, rfl⟩, fun k a h _ => x_Ik h, fun _ _ _ _ => rfl, fun _ _ _ => rfl⟩
theorem r_gc0 {its : List r_It} (h : r_gc its = 0) {i : Nat} (hi : i < its.length) : (its.getD i r_it0).1 = 0 := by
  unfold r_gc at h
  have hm : its.getD i r_it0 ∈ its := by
    rw [List.getD_eq_getElem?_getD, List.getElem?_eq_getElem hi]; exact List.getElem_mem hi
  by_cases e : (its.getD i r_it0).1 = 0
  · exact e
  · have : its.getD i r_it0 ∈ its.filter fun i => decide (i.1 ≠ 0) := List.mem_filter.mpr ⟨hm, decide_eq_true e⟩
    rw [List.eq_nil_of_length_eq_zero h] at this
    cases this
theorem r_gat_mono {its : List r_It} {al : Nat} {env : Nat → Nat → Int64} {iv : Nat → Int64} {a : List r_Gp × Bool} (h : a.2 = true) : (r_gat its al env iv a).2 = true := by
  unfold r_gat
  cases r_gfd its iv a.1 with
  | some g => exact h
  | none =>
    show (if a.1.length < al then _ else _ : List r_Gp × Bool).2 = true
    by_cases e : a.1.length < al
    · rw [if_pos e]; exact h
    · rw [if_neg e]
variable {p n0 S n : Nat} {so : Nat → Option Nat} {w0 : g_St} {cds : List r_Cd} {lv : Nat → Nat} {rows : Nat → List r_Row} {mk : Nat → Bool} {fr : Nat → Nat} {V : Nat → Nat → Prop} {tb : (Nat ⊕ Nat) → List (Nat → Int64)} {rk : Bool} {its : List r_It} {Rel0 : g_St → α → Prop} {put : (Nat → r_Row) → (Nat → Int64) → α → α} {fo : α → Bool} {al : Nat}
theorem y_w156 {w : g_St} (b : Bool) (h : g_I w 1092 4 = z_g b) (rm : g_cn w + 8 ≤ 601024 ∧ g_sn w + 512 ≤ 7293034) : f_Ru_work_156 (some 4) w = if b = true then some (.inr 3, g_bump w 8 512) else some (.inl (), w) := by
  unfold f_Ru_work_156
  rw [x_gI, h]
  cases b with
  | false => rfl
  | true => rw [if_neg (show ¬ z_g true = 0 from by decide), x_thr rm.1 rm.2, if_pos rfl]
theorem y_wend (C : X_cb w0 p n0 S n so cds lv rows mk fr V tb rk) (hit : X_it w0 so S its) (hu : r_uit (fun k j => k < n ∧ V k j ∧ j ≤ 3) its) (rn : X_rn w0 S) (h328 : g_I w0 328 S = Int32.ofNat (r_gc its)) (hal : g_I w0 644 4 = Int32.ofNat al) (al48 : al ≤ 48) (hf : g_I w0 1028 4 = z_g false) (hg : X_gr w0 its.length 0 (r_gs0 its)) (rm : g_cn w0 + 8 ≤ 601024 ∧ g_sn w0 + 512 ≤ 7293034) (hfo : ∀ w a, Rel0 w a → g_I w 1092 4 = z_g (fo a)) (hput : ∀ ch v a, fo a = true → fo (put ch v a) = true) (hst : ∀ w w' a, X_sf w w' → Rel0 w a → Rel0 w' a) (hnr : rk = false → ∀ ch, (∀ k, k < n → ch k ∈ rows k) → ¬ r_bad its (r_en ch)) (hc1 : ∀ w a ch vals, r_gc its = 0 → X_wf p n0 w0 w → Rel0 w a → X_eb w so rows fr n ch → (∀ i, i < its.length → g_AL w 149 i = vals i) → ∃ w' m, n0 ≤ m ∧ f_Ru_come (some 4) w = some ((), w') ∧ X_fm p m w w' ∧ Rel0 w' (put ch vals a)) (hc2 : ∀ w a vals, r_gc its ≠ 0 → X_wf p n0 w0 w → Rel0 w a → (∀ i, i < its.length → g_AL w 149 i = vals i) → ∃ w' m, n0 ≤ m ∧ f_Ru_come (some 4) w = some ((), w') ∧ X_fm p m w w' ∧ Rel0 w' (put (fun _ => []) vals a)) (hso : ∀ k r, so k = some r → r % 64 = 9) {a0 : α} (h0 : Rel0 w0 a0) (hfo0 : fo a0 = false) {ch0 : Nat → r_Row} {L : List (Nat → r_Row)} (hL : r_cl tb cds lv (fun k => r_pk (mk k) (rows k)) n 0 ch0 = L) (hLl : L.length < 2 ^ 30) : X_res (r_wend S w0) (X_wf p n0 w0) Rel0 (r_work its al put fo L a0) := by
  have s8 := C.1.1
  have n3 := C.1.2.2.2.1
  have l4 := hit.2.2.1
  have gcl : r_gc its ≤ its.length := List.length_filter_le _ _
  have bads : (L.any fun e => r_badb its (r_en e)) = true ↔ ∃ e ∈ L, r_bad its (r_en e) := by
    rw [List.any_eq_true]
    constructor
    · rintro ⟨e, h1, h2⟩; exact ⟨e, h1, (r_badb_iff _ _).mp h2⟩
    · rintro ⟨e, h1, h2⟩; exact ⟨e, h1, (r_badb_iff _ _).mpr h2⟩
  have bdE : ∀ w ch, X_wf p n0 w0 w → X_eb w so rows fr n ch → ∀ k j, (k < n ∧ V k j ∧ j ≤ 3) → X_bd w so (r_en ch) k (fun j => k < n ∧ V k j ∧ j ≤ 3) := fun w ch F E k j hk => by
    obtain ⟨r, rel, cl, x, b1, b2, b3, b4, b5, b6, b7⟩ := E.bd C F (Nat.le_refl _) hk.1
    exact ⟨r, rel, cl, x, b1, b2, b3, b4, b5, b6, fun i hi => b7 i hi.2⟩
  have rmw : ∀ w, X_wf p n0 w0 w → g_cn w + 8 ≤ 601024 ∧ g_sn w + 512 ≤ 7293034 := fun w F => by rw [F.1.2.1, F.1.2.2.1]; exact rm
  have i328 : ∀ w, X_wf p n0 w0 w → g_I w 328 S = Int32.ofNat (r_gc its) := fun w F => by rw [F.ag.I (by omega) (by omega) (by decide)]; exact h328
  have c0 : (Int32.ofNat (r_gc its) ≤ 0) = (r_gc its ≤ 0) := x_le (b := 0) (by omega) (by omega)
  have E0 : X_eb w0 so rows fr 0 ch0 := fun k hk => by omega
  unfold r_wend r_work
  rw [x_nn]
  by_cases gz : r_gc its = 0
  · -- no groups
    have cb := y_comb (α := α × Nat) (Rel := fun w a => Rel0 w a.1 ∧ g_I w 1028 4 = z_g false) (step := fun ch a => (put ch (r_iv its (r_en ch)) a.1, a.2 + 1)) (bad := fun ch => r_bad its (r_en ch)) (fc := fun _ => false) (fo := fun a => fo a.1) (cnt := fun a => a.2) (K := L.length) C (fun w a h => ⟨h.2, hfo w a.1 h.1⟩) (fun ch a h => ⟨rfl, by
        have h' : fo a.1 = true := by simpa using h
        show fo (put _ _ a.1) = fo a.1
        rw [h', hput _ _ _ h']⟩) (fun _ _ => rfl) (fun w a r x _ h => ⟨hst _ _ _ (X_sf.at r x) h.1, by rw [x_Ik (by decide)]; exact h.2⟩) hnr (fun w a ch F R hk E => by
        obtain ⟨w1, t1, t2, t3⟩ := y_take (rn.of F.1.2.2.2.1 F.1.2.2.2.2.2.2) (hit.ag F.ag) hu (bdE w ch F E) (rmw w F)
        refine ⟨fun nb => ?_, fun b => ⟨w1, t2 b, t1.wf F⟩⟩
        obtain ⟨v1, v2⟩ := t3 nb
        have E1 : X_eb w1 so rows fr n ch := fun k hk => by
          obtain ⟨r, j, e1, e2, e3⟩ := E k hk
          exact ⟨r, j, e1, by rw [t1.2.1]; exact e2, e3⟩
        obtain ⟨w2, m, k1, k2, k3, k4⟩ := hc1 w1 a.1 ch (r_iv its (r_en ch)) gz (t1.wf F) (hst _ _ _ t1.sf R.1) E1 (fun i hi => v1 i hi (r_gc0 gz hi))
        refine ⟨w2, ?_, (t1.wf F).trans (k3.wf k1), ⟨k4, by rw [k3.2.1 _ _ (by omega) (by omega), t1.2.1]; exact R.2⟩, fun r hr => by rw [k3.2.1 _ _ (by omega) (by omega), t1.2.1]⟩
        rw [v2, x_gI, i328 w1 (t1.wf F), if_pos (by rw [c0]; omega), k2, x_c]) n 0 8 w0 (a0, 0) ch0 (by omega) (by omega) X_wf.re (Or.inl ⟨h0, hf⟩) E0 (by rw [hL]; show 0 + L.length ≤ L.length; omega)
    rw [hL] at cb
    obtain ⟨cb1, cb2⟩ := cb
    have ef : ∀ (L : List (Nat → r_Row)) (a : α × Nat), (L.foldl (fun a e => (put e (r_iv its (r_en e)) a.1, a.2 + 1)) a).1 = L.foldl (fun a e => put e (r_iv its (r_en e)) a) a.1 := by
      intro L
      induction L with
      | nil => intro a; rfl
      | cons e L ih => intro a; rw [List.foldl_cons, List.foldl_cons, ih]
    by_cases hb : ∃ e ∈ L, r_bad its (r_en e)
    · rw [if_pos (bads.mpr hb)]
      obtain ⟨w', q1, q2⟩ := cb2 hb
      refine ⟨w', ?_, q2⟩
      rw [show f_Ru_combine 8 (some 4) 0 w0 = _ from q1, x_cTr]
    · rw [if_neg (fun q => hb (bads.mp q)), if_pos gz]
      obtain ⟨w', q1, q2, q3, q4⟩ := cb1 (fun e m1 m2 => hb ⟨e, m1, m2⟩)
      have f156 : g_I w' 1092 4 = z_g (fo (L.foldl (fun a e => put e (r_iv its (r_en e)) a) a0)) := by
        rcases q3 with q | ⟨-, a1, g1, -, g2, -⟩
        · rw [hfo _ _ q.1, ef]
        · have g2' : fo a1.1 = fo (L.foldl (fun a e => (put e (r_iv its (r_en e)) a.1, a.2 + 1)) (a0, 0)).1 := g2
          rw [hfo _ _ g1.1, g2', ef]
      rw [show f_Ru_combine 8 (some 4) 0 w0 = _ from q1, x_cTi, x_gI, i328 w' q2, if_pos (by rw [c0]; omega), y_w156 _ f156 (rmw w' q2)]
      cases hz : fo (L.foldl (fun a e => put e (r_iv its (r_en e)) a) a0) with
      | true => rw [if_pos rfl, if_pos rfl]; exact ⟨w', rfl, q2⟩
      | false =>
        rw [if_neg (by decide), if_neg (by decide)]
        refine ⟨w', rfl, q2, ?_⟩
        rcases q3 with q | ⟨-, a1, g1, -, g2, g3⟩
        · rw [← ef L (a0, 0)]; exact q.1
        · have g3' : (false || fo (L.foldl (fun a e => (put e (r_iv its (r_en e)) a.1, a.2 + 1)) (a0, 0)).1) = true := g3
          rw [ef, hz] at g3'; cases g3'
  · -- groups
    have cb := y_comb (α := (List r_Gp × Bool) × Nat) (Rel := fun w a => X_gr w its.length a.2 a.1.1 ∧ g_I w 1028 4 = z_g a.1.2 ∧ Rel0 w a0) (step := fun ch a => (r_gat its al (r_en ch) (r_iv its (r_en ch)) a.1, a.2 + 1)) (bad := fun ch => r_bad its (r_en ch)) (fc := fun a => a.1.2) (fo := fun _ => false) (cnt := fun a => a.2) (K := L.length) C (fun w a h => ⟨h.2.1, by rw [hfo w a0 h.2.2, hfo0]⟩) (fun ch a h => ⟨by
        have h' : a.1.2 = true := by simpa using h
        show (r_gat _ _ _ _ a.1).2 = a.1.2
        rw [h', r_gat_mono h'], rfl⟩) (fun _ _ => rfl) (fun w a r x _ h => ⟨h.1.fr (x_Ik (by decide)) (fun _ _ => rfl) (fun _ _ => rfl) l4, by rw [x_Ik (by decide)]; exact h.2.1, hst _ _ _ (X_sf.at r x) h.2.2⟩) hnr (fun w a ch F R hk E => by
        obtain ⟨w1, t1, t2, t3⟩ := y_take (rn.of F.1.2.2.2.1 F.1.2.2.2.2.2.2) (hit.ag F.ag) hu (bdE w ch F E) (rmw w F)
        refine ⟨fun nb => ?_, fun b => ⟨w1, t2 b, t1.wf F⟩⟩
        obtain ⟨v1, v2⟩ := t3 nb
        have F1 := t1.wf F
        have E1 : X_eb w1 so rows fr n ch := fun k hk => by
          obtain ⟨r, j, e1, e2, e3⟩ := E k hk
          exact ⟨r, j, e1, by rw [t1.2.1]; exact e2, e3⟩
        obtain ⟨w2, k1, k2, k3, k4⟩ := y_gat hso (rn.of F1.1.2.2.2.1 F1.1.2.2.2.2.2.2) (hit.ag F1.ag) (N := a.2) (al := al) (by omega) (by rw [F1.2.1 _ _ (by decide) (by omega) (by omega)]; exact hal) al48 (a := a.1) (R.1.i9 t1 l4) (by rw [t1.2.1]; exact R.2.1) (iv := r_iv its (r_en ch)) v1 hu (bdE w1 ch F1 E1)
        refine ⟨w2, ?_, F1.trans k2.wf, ⟨k3, k4, hst _ _ _ k2.sf (hst _ _ _ t1.sf R.2.2)⟩, fun r hr => by rw [k2.2.1 _ _ (by omega), t1.2.1]⟩
        rw [v2, x_gI, i328 w1 (t1.wf F), if_neg (by rw [c0]; omega), k1, x_c]) n 0 8 w0 ((r_gs0 its, false), 0) ch0 (by omega) (by omega) X_wf.re (Or.inl ⟨hg, hf, h0⟩) E0 (by rw [hL]; show 0 + L.length ≤ L.length; omega)
    rw [hL] at cb
    obtain ⟨cb1, cb2⟩ := cb
    have ef : ∀ (L : List (Nat → r_Row)) (a : (List r_Gp × Bool) × Nat), (L.foldl (fun a e => (r_gat its al (r_en e) (r_iv its (r_en e)) a.1, a.2 + 1)) a) = (L.foldl (fun g e => r_gat its al (r_en e) (r_iv its (r_en e)) g) a.1, a.2 + L.length) := by
      intro L
      induction L with
      | nil => intro a; rfl
      | cons e L ih => intro a; rw [List.foldl_cons, List.foldl_cons, ih, List.length_cons]; show (_, a.2 + 1 + L.length) = _; rw [show a.2 + 1 + L.length = a.2 + (L.length + 1) by omega]
    have ef' := ef L ((r_gs0 its, false), 0)
    have ef2 : L.foldl (fun a e => (r_gat its al (r_en e) (r_iv its (r_en e)) a.1, a.2 + 1)) ((r_gs0 its, false), 0) = (r_gfold its al L, L.length) := by rw [ef']; show (_, 0 + L.length) = _; rw [Nat.zero_add]; rfl
    by_cases hb : ∃ e ∈ L, r_bad its (r_en e)
    · rw [if_pos (bads.mpr hb)]
      obtain ⟨w', q1, q2⟩ := cb2 hb
      refine ⟨w', ?_, q2⟩
      rw [show f_Ru_combine 8 (some 4) 0 w0 = _ from q1, x_cTr]
    · rw [if_neg (fun q => hb (bads.mp q)), if_neg gz]
      obtain ⟨w', q1, q2, q3, q4⟩ := cb1 (fun e m1 m2 => hb ⟨e, m1, m2⟩)
      rw [ef2] at q3
      have f1028 : g_I w' 1028 4 = z_g (r_gfold its al L).2 := by
        rcases q3 with q | ⟨-, a1, g1, g2, -, -⟩
        · exact q.2.1
        · have g2' : a1.1.2 = (r_gfold its al L).2 := g2
          rw [g1.2.1, g2']
      rw [show f_Ru_combine 8 (some 4) 0 w0 = _ from q1, x_cTi, x_gI, i328 w' q2, if_neg (by rw [c0]; omega), x_nn]
      cases hz : (r_gfold its al L).2 with
      | true =>
        rw [if_pos rfl]
        refine ⟨w', ?_, q2⟩
        unfold f_Ru_giveGroups
        rw [x_gI, f1028, hz, if_neg (show ¬ z_g true = 0 from by decide), x_thr (rmw w' q2).1 (rmw w' q2).2, x_cTr]
      | false =>
        rw [if_neg (by decide)]
        have R' : X_gr w' its.length L.length (r_gfold its al L).1 ∧ Rel0 w' a0 := by
          rcases q3 with q | ⟨-, a1, g1, g2, g3, g4⟩
          · exact ⟨q.1, q.2.2⟩
          · have : ((r_gfold its al L).2 || false) = true := g4
            rw [hz] at this; cases this
        obtain ⟨y1, y2⟩ := y_give (p := p) (n0 := n0) (put := put (fun _ => [])) (Rel := Rel0) (hit.ag q2.ag) (rn.of q2.1.2.2.2.1 q2.1.2.2.2.2.2.2) hLl R'.1 (by rw [f1028, hz]) (fun w w' a h => hst w w' a h.sf) (fun w a vals F hR hv => hc2 w a vals gz (q2.trans F) hR hv) (rmw w' q2) R'.2
        by_cases gb : r_gbad its.length (r_gfold its al L).1
        · rw [if_pos ((r_gbadb_iff _ _).mpr gb), y1 gb, x_cTr]
          exact ⟨w', rfl, q2⟩
        · rw [if_neg (fun q => gb ((r_gbadb_iff _ _).mp q))]
          obtain ⟨w2, z1, z2, z3⟩ := y2 gb
          rw [z1, x_cTi, y_w156 _ (hfo _ _ z3) (rmw w2 (q2.trans z2))]
          cases hz2 : fo ((r_gfold its al L).1.foldl (fun a g => put (fun _ => []) (r_gv its g) a) a0) with
          | true => rw [if_pos rfl, if_pos rfl]; exact ⟨w2, rfl, q2.trans z2⟩
          | false => rw [if_neg (by decide), if_neg (by decide)]; exact ⟨w2, rfl, q2.trans z2, z3⟩
end
