/-! RUNNING: the rows that a source gives, as the reference gathers them and as the engine binds them (pure) -/
theorem z_ff_fm {β γ : Type} (f : β → Option γ) (g : β → Bool) (d : γ) : ∀ l : List β, ((l.filter fun i => (f i).isSome && g i).map fun i => (f i).getD d) = l.filterMap fun i => if g i = true then f i else none := by
  intro l
  induction l with
  | nil => rfl
  | cons b l ih =>
    rw [List.filter_cons, List.filterMap_cons]
    cases hf : f b with
    | none =>
      rw [if_neg (by simp), ih]
      cases g b <;> rfl
    | some c =>
      cases g b with
      | false => rw [if_neg (by simp), ih]; rfl
      | true =>
        rw [if_pos (by simp), List.map_cons, ih, hf]
        rfl
/-- rows in a window -/
theorem z_window {β γ : Type} (e : β → Option γ) (low high : Nat) : ∀ (P : List β) (off : Nat), (List.range P.length).filterMap (fun i => if low ≤ i + off ∧ i + off < high then P[i]?.bind e else none) = ((P.take (high - off)).drop (low - off)).filterMap e := by
  intro P
  induction P with
  | nil => intro off; rw [List.take_nil, List.drop_nil]; rfl
  | cons x P ih =>
    intro off
    rw [List.length_cons, List.range_succ_eq_map, List.filterMap_cons, List.filterMap_map]
    have ef : ((fun i => if low ≤ i + off ∧ i + off < high then (x :: P)[i]?.bind e else none) ∘ Nat.succ) = fun i => if low ≤ i + (off + 1) ∧ i + (off + 1) < high then P[i]?.bind e else none := funext fun i => by
      show (if low ≤ i + 1 + off ∧ i + 1 + off < high then (x :: P)[i + 1]?.bind e else none) = _
      rw [List.getElem?_cons_succ, show i + 1 + off = i + (off + 1) by omega]
    rw [ef, ih (off + 1)]
    by_cases hh : high - off = 0
    · have c : ¬ (low ≤ 0 + off ∧ 0 + off < high) := by omega
      rw [if_neg c, hh, show high - (off + 1) = 0 by omega, List.take_zero, List.take_zero, List.drop_nil, List.drop_nil]
    · obtain ⟨k, hk⟩ : ∃ k, high - off = k + 1 := ⟨high - off - 1, by omega⟩
      rw [hk, show high - (off + 1) = k by omega, List.take_succ_cons]
      by_cases hl : low - off = 0
      · have c : low ≤ 0 + off ∧ 0 + off < high := by omega
        rw [if_pos c, hl, show low - (off + 1) = 0 by omega, List.drop_zero, List.drop_zero, List.filterMap_cons]
        rfl
      · have c : ¬ (low ≤ 0 + off ∧ 0 + off < high) := by omega
        obtain ⟨l, hl2⟩ : ∃ l, low - off = l + 1 := ⟨low - off - 1, by omega⟩
        rw [if_neg c, hl2, show low - (off + 1) = l by omega, List.drop_succ_cons]
def M_rsl (P : M_Pl) (tbl : Nat → List (Nat → Int64)) (sn : Nat → Nat → Bool) (m : Nat ⊕ Nat) : List r_Row := (M_ix P tbl sn m).map fun i => (M_at P tbl m i).getD []
theorem M_rsl_fm (P : M_Pl) (tbl : Nat → List (Nat → Int64)) (sn : Nat → Nat → Bool) (m : Nat ⊕ Nat) : M_rsl P tbl sn m = (List.range (M_nd P tbl m)).filterMap fun i => if M_sn sn m i = true then M_at P tbl m i else none := z_ff_fm (M_at P tbl m) (M_sn sn m) [] _
theorem M_pr_take (P : M_Pl) (q n : Nat) : M_pr (P.take n) q = (M_pr P q).take (M_pr (P.take n) q).length := by
  have e : M_pr P q = M_pr (P.take n) q ++ M_pr (P.drop n) q := by rw [← M_pr_app, List.take_append_drop]
  rw [e, List.take_left]
theorem M_pr_win (P : M_Pl) (q : Nat) {low high : Nat} (h : low ≤ high) : M_pr ((P.take high).drop low) q = (M_pr (P.take high) q).drop (M_pr (P.take low) q).length := by
  have e : M_pr (P.take high) q = M_pr (P.take low) q ++ M_pr ((P.take high).drop low) q := by
    have e2 : (P.take high).take low = P.take low := by rw [List.take_take, Nat.min_eq_left h]
    rw [← M_pr_app, ← e2, List.take_append_drop]
  rw [e, List.drop_left]
section
variable {Xs : Nat → r_Pt} {cp : Nat → Nat} {ua : Nat → Bool} {P : M_Pl} {tbl : Nat → List (Nat → Int64)} {st bf : Nat → Nat} {p mask low high : Nat}
theorem M_rsl_r (lh : low ≤ high) {m : Nat ⊕ Nat} (hin : ∀ q, m = .inl q → mask.testBit q = decide (cp p = cp q)) (hm : ∀ q, m = .inl q → cp p = cp q → st q = (M_pr (P.take high) q).length ∧ (if ua q = true then bf q else 0) = (M_pr (P.take low) q).length ∧ ((Xs q).2.2.1.isSome = true → p = q)) : M_rsl P tbl (M_see Xs P p mask low high) m = r_pk (r_mkd cp Xs (some p) m) (r_rs cp ua (M_pr P) tbl st bf (some p) m) := by
  rw [M_rsl_fm]
  cases m with
  | inr t =>
    have e : (fun i => if M_sn (M_see Xs P p mask low high) (.inr t) i = true then M_at P tbl (.inr t) i else none) = M_at P tbl (.inr t) := funext fun i => by
      show (if true = true then M_at P tbl (.inr t) i else none) = _
      rw [if_pos rfl]
    rw [e, M_rws]
    show (tbl t).map (fun c => ([c] : r_Row)) = ((((tbl t).map fun c => ([c] : r_Row)).take (tbl t).length).drop 0).filter fun a => !(false && decide (r_hd a 3 = 1))
    rw [List.drop_zero, List.take_of_length_le (by rw [List.length_map]; exact Nat.le_refl _)]
    exact (List.filter_eq_self.mpr (fun a _ => rfl)).symm
  | inl q =>
    by_cases c : cp p = cp q
    · obtain ⟨h1, h2, h3⟩ := hm q rfl c
      have hb : mask.testBit q = true := by rw [hin q rfl, decide_eq_true c]
      have ri : r_in cp (some p) (.inl q) = true := by
        show decide (cp p = cp q) = true
        exact decide_eq_true c
      have mk : (decide (p = q) && (Xs q).2.2.1.isSome) = (Xs q).2.2.1.isSome := by
        cases hx : (Xs q).2.2.1.isSome with
        | false => exact Bool.and_false _
        | true => rw [decide_eq_true (h3 hx)]; rfl
      have ef : (fun i => if M_sn (M_see Xs P p mask low high) (.inl q) i = true then M_at P tbl (.inl q) i else none) = fun i => if low ≤ i + 0 ∧ i + 0 < high then P[i]?.bind (fun x => if x.1 = q ∧ (!((Xs q).2.2.1.isSome && decide (r_hd x.2 3 = 1))) = true then some x.2 else none) else none := funext fun i => by
        show (if M_see Xs P p mask low high q i = true then P[i]?.bind (fun x => if x.1 = q then some x.2 else none) else none) = _
        unfold M_see
        rw [hb, Bool.not_true, Bool.false_or, mk, Nat.add_zero]
        by_cases w : low ≤ i ∧ i < high
        · rw [if_pos w, decide_eq_true w.1, decide_eq_true w.2, Bool.true_and, Bool.true_and]
          cases hp : P[i]? with
          | none => exact ite_self _
          | some x =>
            show (if (!((Xs q).2.2.1.isSome && decide (r_hd x.2 3 = 1))) = true then (if x.1 = q then some x.2 else none) else none) = if x.1 = q ∧ _ then some x.2 else none
            by_cases g1 : (!((Xs q).2.2.1.isSome && decide (r_hd x.2 3 = 1))) = true
            · rw [if_pos g1]
              by_cases g2 : x.1 = q
              · rw [if_pos g2, if_pos ⟨g2, g1⟩]
              · rw [if_neg g2, if_neg (fun z => g2 z.1)]
            · rw [if_neg g1, if_neg (fun z => g1 z.2)]
        · rw [if_neg w]
          by_cases w1 : low ≤ i
          · rw [decide_eq_true w1, decide_eq_false (fun z => w ⟨w1, z⟩), Bool.true_and, Bool.false_and, if_neg (by decide)]
          · rw [decide_eq_false w1, Bool.false_and, Bool.false_and, if_neg (by decide)]
      rw [ef]
      have z := z_window (fun x : Nat × r_Row => if x.1 = q ∧ (!((Xs q).2.2.1.isSome && decide (r_hd x.2 3 = 1))) = true then some x.2 else none) low high P 0
      have ep : ∀ l : M_Pl, (l.filterMap fun x => if x.1 = q ∧ (!((Xs q).2.2.1.isSome && decide (r_hd x.2 3 = 1))) = true then some x.2 else none) = (M_pr l q).filter fun a => !((Xs q).2.2.1.isSome && decide (r_hd a 3 = 1)) := fun l => by
        unfold M_pr
        rw [List.filter_filterMap]
        refine congrArg (fun f => List.filterMap f l) (funext fun x => ?_)
        by_cases g2 : x.1 = q
        · rw [if_pos g2]
          by_cases g1 : (!((Xs q).2.2.1.isSome && decide (r_hd x.2 3 = 1))) = true
          · rw [if_pos ⟨g2, g1⟩]
            show some x.2 = Option.filter _ (some x.2)
            rw [Option.filter_some, if_pos g1]
          · rw [if_neg (fun z => g1 z.2)]
            show none = Option.filter _ (some x.2)
            rw [Option.filter_some, if_neg g1]
        · rw [if_neg g2, if_neg (fun z => g2 z.1)]
          rfl
      show (List.range P.length).filterMap _ = _
      rw [z, ep, Nat.sub_zero, Nat.sub_zero, M_pr_win P q lh, M_pr_take P q high]
      have mkd : r_mkd cp Xs (some p) (.inl q) = (Xs q).2.2.1.isSome := by
        show (r_in cp (some p) (.inl q) && _) = _
        rw [ri, Bool.true_and]
      unfold r_pk r_rs
      rw [mkd]
      show _ = (((M_pr P q).take (if r_in cp (some p) (.inl q) = true then st q else (M_pr P q).length)).drop (if r_in cp (some p) (.inl q) = true then (if ua q = true then bf q else 0) else 0)).filter _
      rw [if_pos ri, if_pos ri, h2, h1, ← M_pr_take P q high]
    · have hb : mask.testBit q = false := by rw [hin q rfl, decide_eq_false c]
      have ri : r_in cp (some p) (.inl q) = false := by
        show decide (cp p = cp q) = false
        exact decide_eq_false c
      have e : (fun i => if M_sn (M_see Xs P p mask low high) (.inl q) i = true then M_at P tbl (.inl q) i else none) = M_at P tbl (.inl q) := funext fun i => by
        show (if M_see Xs P p mask low high q i = true then M_at P tbl (.inl q) i else none) = _
        unfold M_see
        rw [hb, if_pos (by rw [Bool.not_false, Bool.true_or])]
      rw [e, M_rws]
      show M_pr P q = _
      have mkd : r_mkd cp Xs (some p) (.inl q) = false := by
        show (r_in cp (some p) (.inl q) && _) = _
        rw [ri, Bool.false_and]
      unfold r_pk r_rs
      rw [mkd]
      show _ = (((M_pr P q).take (if r_in cp (some p) (.inl q) = true then st q else (M_pr P q).length)).drop (if r_in cp (some p) (.inl q) = true then (if ua q = true then bf q else 0) else 0)).filter _
      rw [if_neg (by rw [ri]; decide), if_neg (by rw [ri]; decide), List.drop_zero, List.take_length]
      exact (List.filter_eq_self.mpr (fun a _ => rfl)).symm
end
theorem M_rsl_cr (P : M_Pl) (tbl : Nat → List (Nat → Int64)) (sn : Nat → Nat → Bool) (ms : List (Nat ⊕ Nat)) : M_cr P tbl ms (fun k => (M_ix P tbl sn (r_ml ms k)).map (M_xc (r_ml ms k))) (fun k => M_rsl P tbl sn (r_ml ms k)) := by
  intro k _
  refine ⟨by show (List.map _ _).length = (List.map _ _).length; rw [List.length_map, List.length_map], fun i hi => ?_⟩
  have hi' : i < (M_ix P tbl sn (r_ml ms k)).length := by
    have : i < (List.map _ (M_ix P tbl sn (r_ml ms k))).length := hi
    rw [List.length_map] at this
    exact this
  have mem := List.getElem_mem hi'
  have h := (List.mem_filter.mp (show (M_ix P tbl sn (r_ml ms k))[i] ∈ (List.range (M_nd P tbl (r_ml ms k))).filter (M_in P tbl sn (r_ml ms k)) from mem)).2
  unfold M_in at h
  rw [Bool.and_eq_true] at h
  refine ⟨(M_ix P tbl sn (r_ml ms k))[i], ?_, ?_⟩
  · show ((M_ix P tbl sn (r_ml ms k)).map (M_xc (r_ml ms k))).getD i 0 = _
    rw [List.getD_eq_getElem?_getD, List.getElem?_map, List.getElem?_eq_getElem hi']
    rfl
  · show _ = some (((M_ix P tbl sn (r_ml ms k)).map fun i => (M_at P tbl (r_ml ms k) i).getD []).getD i [])
    rw [List.getD_eq_getElem?_getD (l := (M_ix P tbl sn (r_ml ms k)).map _), List.getElem?_map, List.getElem?_eq_getElem hi']
    show _ = some ((M_at P tbl (r_ml ms k) (M_ix P tbl sn (r_ml ms k))[i]).getD [])
    cases hx : M_at P tbl (r_ml ms k) (M_ix P tbl sn (r_ml ms k))[i] with
    | none => rw [hx] at h; exact absurd h.1 (by decide)
    | some r => rfl
