/-! RUNNING: the rounds of the reference are those of the engine (pure) -/
def r_qok (np : Nat) (Xs : Nat → r_Pt) (cp ns : Nat → Nat) (nm names : Nat → Nat → Bool) (rec ual : Nat → Bool) (sl : Nat → Nat → r_Sel) : Prop := ∀ q k, q < np → k < ns q → (nm q k = false → ∀ m, m < (sl q k).2.1.length → r_in cp (some q) (r_ml (sl q k).2.1 m) = false) ∧ (∀ i z, i < (sl q k).2.2.1.length → (sl q k).2.2.1.getD i r_cd0 = .inr z → r_in cp (some q) z.1 = false) ∧ ((rec q && ual q) = true → names q k = true → (∃ m, m < (sl q k).2.1.length ∧ r_ml (sl q k).2.1 m = .inl q) ∧ r_gc (sl q k).1 = 0) ∧ (names q k = true → nm q k = true) ∧ ((rec q && ual q) = true → nm q k = true → names q k = true)
def r_clo (Xs : Nat → r_Pt) (cp : Nat → Nat) (ua : Nat → Bool) (tbl : Nat → List (Nat → Int64)) (al : Nat) (sl : Nat → Nat → r_Sel) (j : Nat × Nat) (s : r_Rs) : Prop := ∃ B, r_wb (sl j.1 j.2).1 al (r_cbs cp Xs ua s.1 tbl (fun _ => 0) (fun _ => 0) (some j.1) (sl j.1 j.2).2.1 (sl j.1 j.2).2.2.1 (sl j.1 j.2).2.2.2.1) = .inl B ∧ ∀ x ∈ B, ((s.1 j.1).any fun r => r_same (Xs j.1) r (r_nrow (Xs j.1) x.2 (r_par (sl j.1 j.2).2.1 j.1 x.1))) = true
section
variable {np : Nat} {Xs : Nat → r_Pt} {cp ns : Nat → Nat} {nm names : Nat → Nat → Bool} {rec ua : Nat → Bool} {sl : Nat → Nat → r_Sel} {tbl : Nat → List (Nat → Int64)} {al c : Nat}
theorem r_clo_mono (Q : r_qok np Xs cp ns nm names rec ua sl) {j j' : Nat × Nat} (hj : j.1 < np ∧ cp j.1 = c ∧ j.2 < ns j.1) (hj' : cp j'.1 = c) (hn : nm j.1 j.2 = false) {st bf : Nat → Nat} {s s' : r_Rs} (h : r_clo Xs cp ua tbl al sl j s) (e : r_one Xs cp ua tbl al st bf (sl j'.1 j'.2) j'.1 s = .inl s') : r_clo Xs cp ua tbl al sl j s' := by
  obtain ⟨B, h1, h2⟩ := h
  obtain ⟨e1, ⟨t, e2⟩, -⟩ := r_one_ext e
  obtain ⟨q1, q2, -⟩ := Q j.1 j.2 hj.1 hj.2.2
  refine ⟨B, ?_, fun x hx => ?_⟩
  · rw [← h1]
    refine congrArg (r_wb (sl j.1 j.2).1 al) (r_cbs_cg (q1 hn) q2 (fun i hi => e1 i (fun z => hi ?_)))
    rw [z, hj', hj.2.1]
  · have hx' := h2 x hx
    by_cases g : j.1 = j'.1
    · rw [g] at hx' ⊢
      rw [e2, List.any_append, hx', Bool.true_or]
    · rw [e1 j.1 g]; exact hx'
theorem r_clo_new (Q : r_qok np Xs cp ns nm names rec ua sl) {j : Nat × Nat} (hj : j.1 < np ∧ cp j.1 = c ∧ j.2 < ns j.1) (hn : nm j.1 j.2 = false) (hX : (Xs j.1).2.2.2 = true) {st bf : Nat → Nat} {s s' : r_Rs} (e : r_one Xs cp ua tbl al st bf (sl j.1 j.2) j.1 s = .inl s') : r_clo Xs cp ua tbl al sl j s' := by
  obtain ⟨e1, ⟨t, e2⟩, B, e3, e4⟩ := r_one_ext e
  obtain ⟨q1, q2, -⟩ := Q j.1 j.2 hj.1 hj.2.2
  refine ⟨B, ?_, e4 hX⟩
  rw [← e3]
  exact congrArg (r_wb (sl j.1 j.2).1 al) (r_cbs_cg (q1 hn) q2 (fun i hi => e1 i (fun z => hi (by rw [z]))))
theorem r_clo_id (Q : r_qok np Xs cp ns nm names rec ua sl) {j : Nat × Nat} (hj : j.1 < np ∧ cp j.1 = c ∧ j.2 < ns j.1) (hn : nm j.1 j.2 = false) (hX : (Xs j.1).2.2.2 = true) {st bf : Nat → Nat} {s : r_Rs} (h : r_clo Xs cp ua tbl al sl j s) : r_one Xs cp ua tbl al st bf (sl j.1 j.2) j.1 s = .inl s := by
  obtain ⟨B, h1, h2⟩ := h
  obtain ⟨q1, q2, -⟩ := Q j.1 j.2 hj.1 hj.2.2
  exact r_one_id hX (by
    rw [← h1]
    exact congrArg (r_wb (sl j.1 j.2).1 al) (r_cbs_cg (q1 hn) q2 (fun i _ => rfl))) h2
theorem r_seq_inv {one : Nat × Nat → r_Rs → r_Rs ⊕ Nat} {I : r_Rs → Prop} : ∀ (l : List (Nat × Nat)), (∀ j ∈ l, ∀ s s', I s → one j s = .inl s' → I s') → ∀ s s', I s → r_seq one l s = .inl s' → I s' := by
  intro l
  induction l with
  | nil => intro _ s s' hs e; rw [r_seq] at e; rw [← Sum.inl.inj e]; exact hs
  | cons j l ih =>
    intro h s s' hs e
    rw [r_seq] at e
    cases ho : one j s with
    | inr c => rw [ho] at e; cases e
    | inl s1 =>
      rw [ho] at e
      exact ih (fun j hj => h j (List.mem_cons_of_mem _ hj)) s1 s' (h j (List.mem_cons_self ..) s s1 hs ho) e
/-- all selections that name no part of the component are closed -/
def r_all_clo (np : Nat) (Xs : Nat → r_Pt) (cp ns : Nat → Nat) (nm : Nat → Nat → Bool) (rec ua : Nat → Bool) (tbl : Nat → List (Nat → Int64)) (al : Nat) (sl : Nat → Nat → r_Sel) (c : Nat) (s : r_Rs) : Prop := ∀ j ∈ r_jobs cp ns nm c true (List.range np), nm j.1 j.2 = false → (rec j.1 && ua j.1) = false → r_clo Xs cp ua tbl al sl j s
theorem r_rd1 (Q : r_qok np Xs cp ns nm names rec ua sl) {st bf : Nat → Nat} (hst : ∀ q, q < np → cp q = c → st q = 0) (s : r_Rs) : r_seq (fun j => r_one Xs cp ua tbl al st bf (sl j.1 j.2) j.1) (r_jobs cp ns (M_keep ua rec names true) c false (List.range np)) s = r_seq (fun j => r_one Xs cp ua tbl al st bf (sl j.1 j.2) j.1) (r_jobs cp ns nm c true (List.range np)) s := by
  rw [r_jobs_f cp ns (M_keep ua rec names true) c false, r_jobs_t cp ns (M_keep ua rec names true) nm]
  symm
  refine r_seq_drop (I := fun _ => True) _ (fun j hj hk s _ => ?_) (fun _ _ _ _ _ _ => trivial) s trivial
  obtain ⟨h1, h2, h3, -⟩ := r_jobs_mem hj
  have hk' : M_keep ua rec names true j.1 j.2 = false := by rw [Bool.false_or] at hk; exact hk
  unfold M_keep at hk'
  have hs : (rec j.1 && ua j.1) = true := by
    cases hq : (rec j.1 && ua j.1) with
    | true => rfl
    | false => rw [hq, Bool.not_false, Bool.true_or] at hk'; cases hk'
  have hn : names j.1 j.2 = true := by
    rw [hs, Bool.not_true, Bool.false_or] at hk'
    cases hq : names j.1 j.2 with
    | true => rfl
    | false => rw [hq] at hk'; cases hk'
  obtain ⟨-, -, q3, -⟩ := Q j.1 j.2 h1 h3
  obtain ⟨⟨m, m1, m2⟩, g0⟩ := q3 hs hn
  refine r_one_nil g0 ?_
  unfold r_cbs
  refine r_cl_nil (k := m) ?_ _ _ _ (Nat.zero_le _) (by omega)
  rw [m2]
  have ri : r_in cp (some j.1) (.inl j.1) = true := by
    show decide (cp j.1 = cp j.1) = true
    exact decide_eq_true rfl
  have et : r_to cp s.1 tbl st (some j.1) (.inl j.1) = 0 := by
    show (if r_in cp (some j.1) (.inl j.1) = true then st j.1 else _) = 0
    rw [if_pos ri]
    exact hst j.1 h1 h2
  unfold r_rs
  rw [et, List.take_zero, List.drop_nil]
  rfl
theorem r_rd1c (Q : r_qok np Xs cp ns nm names rec ua sl) (hX : ∀ q, q < np → cp q = c → (rec q && ua q) = false → (Xs q).2.2.2 = true) {st bf : Nat → Nat} {s s' : r_Rs} (e : r_seq (fun j => r_one Xs cp ua tbl al st bf (sl j.1 j.2) j.1) (r_jobs cp ns nm c true (List.range np)) s = .inl s') : r_all_clo np Xs cp ns nm rec ua tbl al sl c s' := by
  have key : ∀ (l : List (Nat × Nat)), (∀ j ∈ l, j.1 < np ∧ cp j.1 = c ∧ j.2 < ns j.1) → ∀ (done : Nat × Nat → Prop), (∀ j, done j → j.1 < np ∧ cp j.1 = c ∧ j.2 < ns j.1) → ∀ s s', (∀ j, done j → nm j.1 j.2 = false → (rec j.1 && ua j.1) = false → r_clo Xs cp ua tbl al sl j s) → r_seq (fun j => r_one Xs cp ua tbl al st bf (sl j.1 j.2) j.1) l s = .inl s' → ∀ j, done j ∨ j ∈ l → nm j.1 j.2 = false → (rec j.1 && ua j.1) = false → r_clo Xs cp ua tbl al sl j s' := by
    intro l
    induction l with
    | nil =>
      intro _ done hd s s' hs e j hj hn hsp
      rw [r_seq] at e
      rw [← Sum.inl.inj e]
      rcases hj with h | h
      · exact hs j h hn hsp
      · cases h
    | cons i l ih =>
      intro hl done hd s s' hs e j hj hn hsp
      have hi := hl i (List.mem_cons_self ..)
      rw [r_seq] at e
      cases ho : r_one Xs cp ua tbl al st bf (sl i.1 i.2) i.1 s with
      | inr c => rw [ho] at e; cases e
      | inl s1 =>
        rw [ho] at e
        refine ih (fun j hj => hl j (List.mem_cons_of_mem _ hj)) (fun j => done j ∨ j = i) (fun j hj => ?_) s1 s' (fun j hj hn hsp => ?_) e j ?_ hn hsp
        · rcases hj with h | h
          · exact hd j h
          · rw [h]; exact hi
        · rcases hj with h | h
          · exact r_clo_mono Q (hd j h) hi.2.1 hn (hs j h hn hsp) ho
          · rw [h] at hn hsp ⊢
            exact r_clo_new Q hi hn (hX i.1 hi.1 hi.2.1 hsp) ho
        · rcases hj with h | h
          · exact Or.inl (Or.inl h)
          · rcases List.mem_cons.mp h with h | h
            · exact Or.inl (Or.inr h)
            · exact Or.inr h
  intro j hj hn hsp
  exact key _ (fun j hj => ⟨(r_jobs_mem hj).1, (r_jobs_mem hj).2.1, (r_jobs_mem hj).2.2.1⟩) (fun _ => False) (fun j hj => absurd hj id) s s' (fun j hj => absurd hj id) e j (Or.inr hj) hn hsp
theorem r_clo_step (Q : r_qok np Xs cp ns nm names rec ua sl) {st bf : Nat → Nat} {j' : Nat × Nat} (hj' : cp j'.1 = c) {s s' : r_Rs} (h : r_all_clo np Xs cp ns nm rec ua tbl al sl c s) (e : r_one Xs cp ua tbl al st bf (sl j'.1 j'.2) j'.1 s = .inl s') : r_all_clo np Xs cp ns nm rec ua tbl al sl c s' := fun j hj hn hsp => r_clo_mono Q ⟨(r_jobs_mem hj).1, (r_jobs_mem hj).2.1, (r_jobs_mem hj).2.2.1⟩ hj' hn (h j hj hn hsp) e
theorem r_rd2 (Q : r_qok np Xs cp ns nm names rec ua sl) (hX : ∀ q, q < np → cp q = c → (rec q && ua q) = false → (Xs q).2.2.2 = true) {st bf : Nat → Nat} {s : r_Rs} (h : r_all_clo np Xs cp ns nm rec ua tbl al sl c s) : r_seq (fun j => r_one Xs cp ua tbl al st bf (sl j.1 j.2) j.1) (r_jobs cp ns (M_keep ua rec names false) c false (List.range np)) s = r_seq (fun j => r_one Xs cp ua tbl al st bf (sl j.1 j.2) j.1) (r_jobs cp ns nm c false (List.range np)) s := by
  have mem : ∀ j, j ∈ r_jobs cp ns (M_keep ua rec names false) c false (List.range np) → j ∈ r_jobs cp ns nm c true (List.range np) := fun j hj => by
    rw [r_jobs_f cp ns (M_keep ua rec names false) c false, r_jobs_t cp ns (M_keep ua rec names false) nm] at hj
    exact (List.mem_filter.mp hj).1
  rw [r_seq_drop (I := r_all_clo np Xs cp ns nm rec ua tbl al sl c) (keep := fun j => nm j.1 j.2) _ (fun j hj hn s hs => ?_) (fun j hj s s' hs e => r_clo_step Q (r_jobs_mem hj).2.1 hs e) s h]
  · refine congrArg (fun l => r_seq _ l s) ?_
    rw [r_jobs_f cp ns (M_keep ua rec names false) c false, r_jobs_t cp ns (M_keep ua rec names false) nm, r_jobs_f cp ns nm c false, List.filter_filter]
    refine List.filter_congr (fun j hj => ?_)
    obtain ⟨h1, h2, h3, -⟩ := r_jobs_mem hj
    obtain ⟨-, -, -, -, q5⟩ := Q j.1 j.2 h1 h3
    rw [Bool.false_or, Bool.false_or]
    cases hn : nm j.1 j.2 with
    | false => exact Bool.false_and _
    | true =>
      rw [Bool.true_and]
      unfold M_keep
      cases hs : (rec j.1 && ua j.1) with
      | false => rfl
      | true => rw [q5 hs hn]; rfl
  · obtain ⟨h1, h2, h3, h4⟩ := r_jobs_mem hj
    obtain ⟨-, -, -, q4, -⟩ := Q j.1 j.2 h1 h3
    have hn' : nm j.1 j.2 = false := hn
    have hsp : (rec j.1 && ua j.1) = false := by
      cases hs : (rec j.1 && ua j.1) with
      | false => rfl
      | true =>
        rw [Bool.false_or] at h4
        unfold M_keep at h4
        rw [hs, Bool.not_true, Bool.false_or] at h4
        have : names j.1 j.2 = true := by
          cases hq : names j.1 j.2 with
          | true => rfl
          | false => rw [hq] at h4; cases h4
        rw [q4 this] at hn'; cases hn'
    exact r_clo_id Q ⟨h1, h2, h3⟩ hn' (hX j.1 h1 h2 hsp) (hs j (mem j hj) hn' hsp)
end
