/-! RUNNING: what is worked out again brings nothing (pure) -/
def r_wb (its : List r_It) (al : Nat) (L : List (Nat → r_Row)) : List ((Nat → r_Row) × (Nat → Int64)) ⊕ Nat :=
  if (L.any fun e => r_badb its (r_en e)) = true then .inr 2
  else if r_gc its = 0 then .inl (L.map fun e => (e, r_iv its (r_en e)))
  else if (r_gfold its al L).2 = true then .inr 3
  else if r_gbadb its.length (r_gfold its al L).1 = true then .inr 2
  else .inl ((r_gfold its al L).1.map fun g => ((fun _ => []), r_gv its g))
theorem r_work_wb {α : Type} (its : List r_It) (al : Nat) (put : (Nat → r_Row) → (Nat → Int64) → α → α) (fo : α → Bool) (L : List (Nat → r_Row)) (a : α) : r_work its al put fo L a = match r_wb its al L with
    | .inr c => .inr c
    | .inl B => if fo (B.foldl (fun a x => put x.1 x.2 a) a) = true then .inr 3 else .inl (B.foldl (fun a x => put x.1 x.2 a) a) := by
  unfold r_work r_wb
  split
  · rfl
  · split
    · show _ = if fo ((L.map fun e => (e, r_iv its (r_en e))).foldl (fun a x => put x.1 x.2 a) a) = true then _ else _
      rw [List.foldl_map]
    · split
      · rfl
      · split
        · rfl
        · show _ = if fo (((r_gfold its al L).1.map fun g => ((fun _ => []), r_gv its g)).foldl (fun a x => put x.1 x.2 a) a) = true then _ else _
          rw [List.foldl_map]
theorem r_eqc_re (d o : Nat) : ∀ a : r_Row, r_eqc d o a a = true := by
  intro a
  induction a with
  | nil => rfl
  | cons x s ih =>
    show (if x d = x d then (if x o = x o then r_eqc d o s s else false) else false) = true
    rw [if_pos rfl, if_pos rfl, ih]
theorem r_same_re (X : r_Pt) (b : r_Row) : r_same X b b = true := by
  unfold r_same r_eqw r_st
  rw [Bool.and_eq_true]
  refine ⟨List.all_eq_true.mpr (fun j _ => decide_eq_true rfl), ?_⟩
  rw [decide_eq_true (rfl : b.length = b.length), Bool.true_and]
  cases r_dp X with
  | none => exact Bool.or_true _
  | some d =>
    show (!r_tr X || r_eqc d (X.2.2.1.getD d) b b) = true
    rw [r_eqc_re, Bool.or_true]
theorem r_put_px (X : r_Pt) (al : Nat) (a : List r_Row × Nat × Bool) (b : r_Row) : ∃ t, (r_put X al a b).1 = a.1 ++ t := by
  unfold r_put
  split
  · exact ⟨[], (List.append_nil _).symm⟩
  · split
    · exact ⟨[b], rfl⟩
    · exact ⟨[], (List.append_nil _).symm⟩
theorem r_putf_pre {β : Type} (X : r_Pt) (al : Nat) (g : β → r_Row) : ∀ (B : List β) (a : List r_Row × Nat × Bool), ∃ t, (B.foldl (fun a x => r_put X al a (g x)) a).1 = a.1 ++ t := by
  intro B
  induction B with
  | nil => intro a; exact ⟨[], (List.append_nil _).symm⟩
  | cons x B ih =>
    intro a
    obtain ⟨t, ht⟩ := r_put_px X al a (g x)
    obtain ⟨u, hu⟩ := ih (r_put X al a (g x))
    exact ⟨t ++ u, by rw [List.foldl_cons, hu, ht, List.append_assoc]⟩
theorem r_put_fl (X : r_Pt) (al : Nat) (a : List r_Row × Nat × Bool) (b : r_Row) (h : a.2.2 = true) : (r_put X al a b).2.2 = true := by
  unfold r_put
  split
  · exact h
  · split
    · exact h
    · rfl
theorem r_put_in {X : r_Pt} (hX : X.2.2.2 = true) {al : Nat} {a : List r_Row × Nat × Bool} {b : r_Row} (h : (r_put X al a b).2.2 = false) : ((r_put X al a b).1.any fun r => r_same X r b) = true := by
  unfold r_put at h ⊢
  by_cases c : (X.2.2.2 && a.1.any fun r => r_same X r b) = true
  · rw [if_pos c]
    rw [hX, Bool.true_and] at c
    exact c
  · rw [if_neg c] at h ⊢
    by_cases l : a.2.1 < al
    · rw [if_pos l]
      show ((a.1 ++ [b]).any fun r => r_same X r b) = true
      rw [List.any_append, List.any_cons, r_same_re, Bool.true_or, Bool.or_true]
    · rw [if_neg l] at h; cases h
theorem r_putf_in {β : Type} {X : r_Pt} (hX : X.2.2.2 = true) {al : Nat} {g : β → r_Row} : ∀ (B : List β) (a : List r_Row × Nat × Bool), (B.foldl (fun a x => r_put X al a (g x)) a).2.2 = false → ∀ x ∈ B, ((B.foldl (fun a x => r_put X al a (g x)) a).1.any fun r => r_same X r (g x)) = true := by
  intro B
  induction B with
  | nil => intro a _ x hx; cases hx
  | cons y B ih =>
    intro a h x hx
    rw [List.foldl_cons] at h ⊢
    rcases List.mem_cons.mp hx with e | e
    · have hf : (r_put X al a (g y)).2.2 = false := by
        cases hq : (r_put X al a (g y)).2.2 with
        | false => rfl
        | true =>
          have := z_fold_fo (step := fun a x => r_put X al a (g x)) (fo := fun a => a.2.2) (fun a x q => r_put_fl X al a (g x) q) B _ hq
          have h' : (B.foldl (fun a x => r_put X al a (g x)) (r_put X al a (g y))).2.2 = true := this
          rw [h'] at h; cases h
      obtain ⟨t, ht⟩ := r_putf_pre X al g B (r_put X al a (g y))
      rw [ht, List.any_append, e, r_put_in hX hf, Bool.true_or]
    · exact ih _ h x e
theorem r_putf_id {β : Type} {X : r_Pt} (hX : X.2.2.2 = true) {al : Nat} {g : β → r_Row} : ∀ (B : List β) (a : List r_Row × Nat × Bool), (∀ x ∈ B, (a.1.any fun r => r_same X r (g x)) = true) → B.foldl (fun a x => r_put X al a (g x)) a = a := by
  intro B
  induction B with
  | nil => intro a _; rfl
  | cons y B ih =>
    intro a h
    have e : r_put X al a (g y) = a := by
      unfold r_put
      rw [if_pos (by rw [hX, Bool.true_and]; exact h y (List.mem_cons_self ..))]
    rw [List.foldl_cons, e]
    exact ih a (fun x hx => h x (List.mem_cons_of_mem _ hx))
section
variable {Xs : Nat → r_Pt} {cp : Nat → Nat} {ua : Nat → Bool} {tbl : Nat → List (Nat → Int64)} {al : Nat}
/-- what a selection does to the state -/
theorem r_one_wb (st bf : Nat → Nat) (y : r_Sel) (q : Nat) (s : r_Rs) : r_one Xs cp ua tbl al st bf y q s = match r_wb y.1 al (r_cbs cp Xs ua s.1 tbl st bf (some q) y.2.1 y.2.2.1 y.2.2.2.1) with
    | .inr c => .inr c
    | .inl B => if (B.foldl (fun a x => r_put (Xs q) al a (r_nrow (Xs q) x.2 (r_par y.2.1 q x.1))) (s.1 q, s.2, false)).2.2 = true then .inr 3 else .inl (r_upd s.1 q (B.foldl (fun a x => r_put (Xs q) al a (r_nrow (Xs q) x.2 (r_par y.2.1 q x.1))) (s.1 q, s.2, false)).1, (B.foldl (fun a x => r_put (Xs q) al a (r_nrow (Xs q) x.2 (r_par y.2.1 q x.1))) (s.1 q, s.2, false)).2.1) := by
  unfold r_one
  rw [r_work_wb]
  cases r_wb y.1 al (r_cbs cp Xs ua s.1 tbl st bf (some q) y.2.1 y.2.2.1 y.2.2.2.1) with
  | inr c => rfl
  | inl B =>
    have key : ∀ Z : List r_Row × Nat × Bool, (match (if Z.2.2 = true then (Sum.inr 3 : (List r_Row × Nat × Bool) ⊕ Nat) else Sum.inl Z) with | .inl a => (Sum.inl (r_upd s.1 q a.1, a.2.1) : r_Rs ⊕ Nat) | .inr c => Sum.inr c) = if Z.2.2 = true then Sum.inr 3 else Sum.inl (r_upd s.1 q Z.1, Z.2.1) := fun Z => by
      by_cases g : Z.2.2 = true
      · rw [if_pos g, if_pos g]
      · rw [if_neg g, if_neg g]
    exact key _
theorem r_one_e {st bf : Nat → Nat} {y : r_Sel} {q : Nat} {s : r_Rs} {e : Nat} (h : r_one Xs cp ua tbl al st bf y q s = .inr e) : e = 2 ∨ e = 3 := by
  rw [r_one_wb] at h
  cases hw : r_wb y.1 al (r_cbs cp Xs ua s.1 tbl st bf (some q) y.2.1 y.2.2.1 y.2.2.2.1) with
  | inr c =>
    rw [hw] at h
    have hc : c = e := Sum.inr.inj h
    rw [← hc]
    unfold r_wb at hw
    split at hw
    · exact Or.inl (Sum.inr.inj hw).symm
    · split at hw
      · cases hw
      · split at hw
        · exact Or.inr (Sum.inr.inj hw).symm
        · split at hw
          · exact Or.inl (Sum.inr.inj hw).symm
          · cases hw
  | inl B =>
    rw [hw] at h
    have h' : (if (B.foldl (fun a x => r_put (Xs q) al a (r_nrow (Xs q) x.2 (r_par y.2.1 q x.1))) (s.1 q, s.2, false)).2.2 = true then (.inr 3 : r_Rs ⊕ Nat) else .inl (r_upd s.1 q (B.foldl (fun a x => r_put (Xs q) al a (r_nrow (Xs q) x.2 (r_par y.2.1 q x.1))) (s.1 q, s.2, false)).1, (B.foldl (fun a x => r_put (Xs q) al a (r_nrow (Xs q) x.2 (r_par y.2.1 q x.1))) (s.1 q, s.2, false)).2.1)) = .inr e := h
    split at h'
    · exact Or.inr (Sum.inr.inj h').symm
    · cases h'
theorem r_one_ext {st bf : Nat → Nat} {y : r_Sel} {q : Nat} {s s' : r_Rs} (h : r_one Xs cp ua tbl al st bf y q s = .inl s') : (∀ q', q' ≠ q → s'.1 q' = s.1 q') ∧ (∃ t, s'.1 q = s.1 q ++ t) ∧ ∃ B, r_wb y.1 al (r_cbs cp Xs ua s.1 tbl st bf (some q) y.2.1 y.2.2.1 y.2.2.2.1) = .inl B ∧ ((Xs q).2.2.2 = true → ∀ x ∈ B, ((s'.1 q).any fun r => r_same (Xs q) r (r_nrow (Xs q) x.2 (r_par y.2.1 q x.1))) = true) := by
  rw [r_one_wb] at h
  cases hw : r_wb y.1 al (r_cbs cp Xs ua s.1 tbl st bf (some q) y.2.1 y.2.2.1 y.2.2.2.1) with
  | inr c => rw [hw] at h; cases h
  | inl B =>
    rw [hw] at h
    have h' : (if (B.foldl (fun a x => r_put (Xs q) al a (r_nrow (Xs q) x.2 (r_par y.2.1 q x.1))) (s.1 q, s.2, false)).2.2 = true then (.inr 3 : r_Rs ⊕ Nat) else .inl (r_upd s.1 q (B.foldl (fun a x => r_put (Xs q) al a (r_nrow (Xs q) x.2 (r_par y.2.1 q x.1))) (s.1 q, s.2, false)).1, (B.foldl (fun a x => r_put (Xs q) al a (r_nrow (Xs q) x.2 (r_par y.2.1 q x.1))) (s.1 q, s.2, false)).2.1)) = .inl s' := h
    by_cases g : (B.foldl (fun a x => r_put (Xs q) al a (r_nrow (Xs q) x.2 (r_par y.2.1 q x.1))) (s.1 q, s.2, false)).2.2 = true
    · rw [if_pos g] at h'; cases h'
    · rw [if_neg g] at h'
      have e := Sum.inl.inj h'
      rw [← e]
      refine ⟨fun q' hq' => ?_, ?_, B, rfl, fun hX x hx => ?_⟩
      · show (if q' = q then _ else s.1 q') = _
        rw [if_neg hq']
      · obtain ⟨t, ht⟩ := r_putf_pre (Xs q) al (fun x : (Nat → r_Row) × (Nat → Int64) => r_nrow (Xs q) x.2 (r_par y.2.1 q x.1)) B (s.1 q, s.2, false)
        refine ⟨t, ?_⟩
        show (if q = q then _ else s.1 q) = _
        rw [if_pos rfl]
        exact ht
      · show ((if q = q then _ else s.1 q).any _) = true
        rw [if_pos rfl]
        exact r_putf_in hX (g := fun x : (Nat → r_Row) × (Nat → Int64) => r_nrow (Xs q) x.2 (r_par y.2.1 q x.1)) B _ (by rw [Bool.not_eq_true] at g; exact g) x hx
theorem r_upd_id (pr : Nat → List r_Row) (q : Nat) : r_upd pr q (pr q) = pr := funext fun j => by
  unfold r_upd
  by_cases e : j = q
  · rw [if_pos e, e]
  · rw [if_neg e]
theorem r_one_id {st bf : Nat → Nat} {y : r_Sel} {q : Nat} {s : r_Rs} {B : List ((Nat → r_Row) × (Nat → Int64))} (hX : (Xs q).2.2.2 = true) (hw : r_wb y.1 al (r_cbs cp Xs ua s.1 tbl st bf (some q) y.2.1 y.2.2.1 y.2.2.2.1) = .inl B) (h : ∀ x ∈ B, ((s.1 q).any fun r => r_same (Xs q) r (r_nrow (Xs q) x.2 (r_par y.2.1 q x.1))) = true) : r_one Xs cp ua tbl al st bf y q s = .inl s := by
  rw [r_one_wb, hw]
  have e := r_putf_id (al := al) hX (g := fun x : (Nat → r_Row) × (Nat → Int64) => r_nrow (Xs q) x.2 (r_par y.2.1 q x.1)) B (s.1 q, s.2, false) h
  show (if (B.foldl (fun a x => r_put (Xs q) al a (r_nrow (Xs q) x.2 (r_par y.2.1 q x.1))) (s.1 q, s.2, false)).2.2 = true then (.inr 3 : r_Rs ⊕ Nat) else .inl (r_upd s.1 q (B.foldl (fun a x => r_put (Xs q) al a (r_nrow (Xs q) x.2 (r_par y.2.1 q x.1))) (s.1 q, s.2, false)).1, (B.foldl (fun a x => r_put (Xs q) al a (r_nrow (Xs q) x.2 (r_par y.2.1 q x.1))) (s.1 q, s.2, false)).2.1)) = .inl s
  have e' : B.foldl (fun a x => r_put (Xs q) al a (r_nrow (Xs q) x.2 (r_par y.2.1 q x.1))) (s.1 q, s.2, false) = (s.1 q, s.2, false) := e
  rw [e', if_neg (show ¬ (s.1 q, s.2, false).2.2 = true from Bool.false_ne_true)]
  show (.inl (r_upd s.1 q (s.1 q), s.2) : r_Rs ⊕ Nat) = _
  rw [r_upd_id]
/-- without combinations nothing comes -/
theorem r_one_nil {st bf : Nat → Nat} {y : r_Sel} {q : Nat} {s : r_Rs} (hg : r_gc y.1 = 0) (h : r_cbs cp Xs ua s.1 tbl st bf (some q) y.2.1 y.2.2.1 y.2.2.2.1 = []) : r_one Xs cp ua tbl al st bf y q s = .inl s := by
  have hw : r_wb y.1 al (r_cbs cp Xs ua s.1 tbl st bf (some q) y.2.1 y.2.2.1 y.2.2.2.1) = .inl [] := by
    rw [h]
    unfold r_wb
    rw [if_neg (show ¬ (([] : List (Nat → r_Row)).any fun e => r_badb y.1 (r_en e)) = true from Bool.false_ne_true), if_pos hg]
    rfl
  rw [r_one_wb, hw]
  show (.inl (r_upd s.1 q (s.1 q), s.2) : r_Rs ⊕ Nat) = _
  rw [r_upd_id]
end
theorem r_cl_nil {tb : (Nat ⊕ Nat) → List (Nat → Int64)} {cds : List r_Cd} {lv : Nat → Nat} {rs : Nat → List r_Row} {k : Nat} (hk : rs k = []) : ∀ (d l : Nat) (ch : Nat → r_Row), l ≤ k → k < l + d → r_cl tb cds lv rs d l ch = [] := by
  intro d
  induction d with
  | zero => intro l ch h1 h2; omega
  | succ d ih =>
    intro l ch h1 h2
    rw [r_cl]
    split
    · by_cases e : k = l
      · rw [e] at hk
        rw [hk]
        rfl
      · rw [List.flatMap_eq_nil_iff]
        intro a _
        exact ih (l + 1) _ (by omega) (by omega)
    · rfl
theorem r_cl_cg {tb tb' : (Nat ⊕ Nat) → List (Nat → Int64)} {cds : List r_Cd} {lv : Nat → Nat} {rs rs' : Nat → List r_Row} (htb : ∀ i z, i < cds.length → cds.getD i r_cd0 = .inr z → tb z.1 = tb' z.1) : ∀ (d l : Nat) (ch : Nat → r_Row), (∀ k, l ≤ k → k < l + d → rs k = rs' k) → r_cl tb cds lv rs d l ch = r_cl tb' cds lv rs' d l ch := by
  have hc : ∀ (l : Nat) (ch : Nat → r_Row), ((List.range cds.length).all fun i => !decide (lv i = l) || r_cd tb (r_en ch) (cds.getD i r_cd0)) = ((List.range cds.length).all fun i => !decide (lv i = l) || r_cd tb' (r_en ch) (cds.getD i r_cd0)) := fun l ch => by
    have e : ∀ i, i < cds.length → r_cd tb (r_en ch) (cds.getD i r_cd0) = r_cd tb' (r_en ch) (cds.getD i r_cd0) := fun i hi => by
      cases hcd : cds.getD i r_cd0 with
      | inl b => rfl
      | inr z =>
        show (!((tb z.1).any fun row => z.2.all (r_cp (r_up (r_en ch) 3 row)))) = (!((tb' z.1).any fun row => z.2.all (r_cp (r_up (r_en ch) 3 row))))
        rw [htb i z hi hcd]
    rw [Bool.eq_iff_iff, List.all_eq_true, List.all_eq_true]
    exact ⟨fun q i hi => by rw [← e i (List.mem_range.mp hi)]; exact q i hi, fun q i hi => by rw [e i (List.mem_range.mp hi)]; exact q i hi⟩
  intro d
  induction d with
  | zero => intro l ch _; rw [r_cl, r_cl, hc]
  | succ d ih =>
    intro l ch h
    rw [r_cl, r_cl, hc, h l (by omega) (by omega)]
    have e : (fun a => r_cl tb cds lv rs d (l + 1) (r_ud ch l a)) = fun a => r_cl tb' cds lv rs' d (l + 1) (r_ud ch l a) := funext fun a => ih (l + 1) _ (fun k h1 h2 => h k (by omega) (by omega))
    rw [e]
/-- a selection that names no part of its component has the same combinations in all rounds -/
theorem r_cbs_cg {Xs : Nat → r_Pt} {cp : Nat → Nat} {ua : Nat → Bool} {tbl : Nat → List (Nat → Int64)} {pr pr' : Nat → List r_Row} {st bf st' bf' : Nat → Nat} {q : Nat} {ms : List (Nat ⊕ Nat)} {cds : List r_Cd} {lv : Nat → Nat} (hms : ∀ k, k < ms.length → r_in cp (some q) (r_ml ms k) = false) (hcd : ∀ i z, i < cds.length → cds.getD i r_cd0 = .inr z → r_in cp (some q) z.1 = false) (hpr : ∀ j, cp j ≠ cp q → pr j = pr' j) : r_cbs cp Xs ua pr tbl st bf (some q) ms cds lv = r_cbs cp Xs ua pr' tbl st' bf' (some q) ms cds lv := by
  have rw1 : ∀ m, r_in cp (some q) m = false → r_rws pr tbl m = r_rws pr' tbl m := fun m hm => by
    cases m with
    | inr t => rfl
    | inl j =>
      have : cp q ≠ cp j := of_decide_eq_false hm
      exact hpr j (fun z => this z.symm)
  unfold r_cbs
  refine r_cl_cg (fun i z hi hz => ?_) ms.length 0 _ (fun k _ hk => ?_)
  · unfold r_tb
    rw [rw1 z.1 (hcd i z hi hz)]
  · have hin := hms k (by omega)
    have e1 := rw1 _ hin
    unfold r_rs
    rw [e1]
    cases hm : r_ml ms k with
    | inr t => rfl
    | inl j =>
      rw [hm] at hin e1
      have e2 : pr j = pr' j := e1
      have t1 : ∀ (pr : Nat → List r_Row) (st : Nat → Nat), r_to cp pr tbl st (some q) (.inl j) = (pr j).length := fun pr st => if_neg (by rw [hin]; decide)
      have t2 : ∀ bf : Nat → Nat, r_frm cp ua bf (some q) (.inl j) = 0 := fun bf => if_neg (by rw [hin]; decide)
      rw [t1, t1, t2, t2, e2]
/-- jobs that change nothing may be left out -/
theorem r_seq_drop {one : Nat × Nat → r_Rs → r_Rs ⊕ Nat} {I : r_Rs → Prop} {keep : Nat × Nat → Bool} : ∀ (l : List (Nat × Nat)), (∀ j ∈ l, keep j = false → ∀ s, I s → one j s = .inl s) → (∀ j ∈ l, ∀ s s', I s → one j s = .inl s' → I s') → ∀ s, I s → r_seq one l s = r_seq one (l.filter keep) s := by
  intro l
  induction l with
  | nil => intro _ _ s _; rfl
  | cons j l ih =>
    intro h1 h2 s hs
    have ih' := ih (fun j hj => h1 j (List.mem_cons_of_mem _ hj)) (fun j hj => h2 j (List.mem_cons_of_mem _ hj))
    rw [List.filter_cons]
    cases hk : keep j with
    | false =>
      rw [if_neg (by decide), r_seq, h1 j (List.mem_cons_self ..) hk s hs]
      exact ih' s hs
    | true =>
      rw [if_pos rfl, r_seq, r_seq]
      cases ho : one j s with
      | inr c => rfl
      | inl s' => exact ih' s' (h2 j (List.mem_cons_self ..) s s' hs ho)
theorem r_jobs_f (cp ns : Nat → Nat) (nm : Nat → Nat → Bool) (num : Nat) (first : Bool) (l : List Nat) : r_jobs cp ns nm num first l = (r_jobs cp ns nm num true l).filter fun j => first || nm j.1 j.2 := by
  unfold r_jobs
  rw [List.filter_flatMap]
  refine congrArg (fun f => List.flatMap f l) (funext fun q => ?_)
  unfold r_jq
  by_cases c : cp q = num
  · rw [if_pos c, if_pos c]
    unfold r_jk
    rw [List.filter_map]
    refine congrArg (List.map fun k => (q, k)) ?_
    rw [List.filter_filter]
    refine congrArg (fun f => List.filter f (List.range (ns q))) (funext fun k => ?_)
    show _ = ((first || nm q k) && (true || nm q k))
    rw [Bool.true_or, Bool.and_true]
  · rw [if_neg c, if_neg c]
    rfl
theorem r_jobs_t (cp ns : Nat → Nat) (nm nm' : Nat → Nat → Bool) (num : Nat) (l : List Nat) : r_jobs cp ns nm num true l = r_jobs cp ns nm' num true l := rfl
theorem r_jobs_mem {cp ns : Nat → Nat} {nm : Nat → Nat → Bool} {num : Nat} {first : Bool} {np : Nat} {j : Nat × Nat} (h : j ∈ r_jobs cp ns nm num first (List.range np)) : j.1 < np ∧ cp j.1 = num ∧ j.2 < ns j.1 ∧ (first || nm j.1 j.2) = true := by
  unfold r_jobs at h
  rw [List.mem_flatMap] at h
  obtain ⟨q, h1, h2⟩ := h
  unfold r_jq at h2
  by_cases c : cp q = num
  · rw [if_pos c] at h2
    unfold r_jk at h2
    rw [List.mem_map] at h2
    obtain ⟨k, h3, h4⟩ := h2
    rw [List.mem_filter] at h3
    rw [← h4]
    exact ⟨List.mem_range.mp h1, c, List.mem_range.mp h3.1, h3.2⟩
  · rw [if_neg c] at h2; cases h2
