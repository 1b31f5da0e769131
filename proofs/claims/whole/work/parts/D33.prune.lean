/-! RUNNING: all combinations, and those that are tested at their levels -/
def r_fu (rs : Nat → List r_Row) : Nat → Nat → (Nat → r_Row) → List (Nat → r_Row)
  | 0, _, ch => [ch]
  | d + 1, l, ch => (rs l).flatMap fun a => r_fu rs d (l + 1) (r_ud ch l a)
theorem r_fu_lo (rs : Nat → List r_Row) : ∀ (d l : Nat) (ch e : Nat → r_Row), e ∈ r_fu rs d l ch → ∀ k, k < l → e k = ch k := by
  intro d
  induction d with
  | zero =>
    intro l ch e h k _
    rw [r_fu, List.mem_singleton] at h
    rw [h]
  | succ d ih =>
    intro l ch e h k hk
    rw [r_fu, List.mem_flatMap] at h
    obtain ⟨a, -, h2⟩ := h
    rw [ih (l + 1) _ e h2 k (by omega)]
    unfold r_ud
    rw [if_neg (by omega)]
theorem z_filter_none {α : Type} (l : List α) (P : α → Bool) (h : ∀ a ∈ l, P a = false) : l.filter P = [] := by
  rw [List.filter_eq_nil_iff]
  intro a ha
  rw [h a ha]
  decide
theorem r_cl_fu (tb : (Nat ⊕ Nat) → List (Nat → Int64)) (cds : List r_Cd) (lv : Nat → Nat) (rs : Nat → List r_Row) (hdep : ∀ i, i < cds.length → ∀ e ch : Nat → r_Row, (∀ k, k < lv i → e k = ch k) → r_cd tb (r_en e) (cds.getD i r_cd0) = r_cd tb (r_en ch) (cds.getD i r_cd0)) : ∀ (d l : Nat) (ch : Nat → r_Row), (∀ i, i < cds.length → lv i ≤ l + d) → r_cl tb cds lv rs d l ch = (r_fu rs d l ch).filter fun e => (List.range cds.length).all fun i => decide (lv i < l) || r_cd tb (r_en e) (cds.getD i r_cd0) := by
  intro d
  induction d with
  | zero =>
    intro l ch hl
    have e : ((List.range cds.length).all fun i => !decide (lv i = l) || r_cd tb (r_en ch) (cds.getD i r_cd0)) = ((List.range cds.length).all fun i => decide (lv i < l) || r_cd tb (r_en ch) (cds.getD i r_cd0)) := by
      rw [Bool.eq_iff_iff, List.all_eq_true, List.all_eq_true]
      constructor
      · intro h i hi
        have h1 := h i hi
        have h2 := hl i (List.mem_range.mp hi)
        by_cases c : lv i = l
        · rw [decide_eq_true c] at h1
          rw [show (r_cd tb (r_en ch) (cds.getD i r_cd0)) = true from by simpa using h1, Bool.or_true]
        · rw [decide_eq_true (show lv i < l by omega)]; rfl
      · intro h i hi
        have h1 := h i hi
        by_cases c : lv i = l
        · rw [decide_eq_false (show ¬ lv i < l by omega), Bool.false_or] at h1
          rw [h1, Bool.or_true]
        · rw [decide_eq_false c]; rfl
    rw [r_cl, r_fu, e, List.filter_cons, List.filter_nil]
  | succ d ih =>
    intro l ch hl
    rw [r_cl, r_fu, List.filter_flatMap]
    by_cases c : ((List.range cds.length).all fun i => !decide (lv i = l) || r_cd tb (r_en ch) (cds.getD i r_cd0)) = true
    · rw [if_pos c]
      refine congrArg (fun f => List.flatMap f (rs l)) (funext fun a => ?_)
      rw [ih (l + 1) _ (fun i hi => by have := hl i hi; omega)]
      refine List.filter_congr (fun e he => ?_)
      have lo := r_fu_lo rs d (l + 1) _ e he
      rw [Bool.eq_iff_iff, List.all_eq_true, List.all_eq_true]
      rw [List.all_eq_true] at c
      constructor
      · intro h i hi
        have h1 := h i hi
        by_cases g : lv i < l
        · rw [decide_eq_true g]; rfl
        · rw [decide_eq_false g, Bool.false_or]
          by_cases g2 : lv i = l
          · have c1 := c i hi
            rw [decide_eq_true g2, Bool.not_true, Bool.false_or] at c1
            rw [hdep i (List.mem_range.mp hi) e ch (fun k hk => by
              rw [lo k (by omega)]
              unfold r_ud
              rw [if_neg (by omega)])]
            exact c1
          · rw [decide_eq_false (show ¬ lv i < l + 1 by omega), Bool.false_or] at h1
            exact h1
      · intro h i hi
        have h1 := h i hi
        by_cases g : lv i < l + 1
        · rw [decide_eq_true g]; rfl
        · rw [decide_eq_false (show ¬ lv i < l by omega), Bool.false_or] at h1
          rw [h1, Bool.or_true]
    · rw [if_neg c]
      symm
      rw [List.flatMap_eq_nil_iff]
      intro a _
      refine z_filter_none _ _ (fun e he => ?_)
      have lo := r_fu_lo rs d (l + 1) _ e he
      rw [Bool.not_eq_true, List.all_eq_false] at c
      rw [List.all_eq_false]
      obtain ⟨i, hi, hb⟩ := c
      refine ⟨i, hi, fun q => hb ?_⟩
      by_cases g : lv i = l
      · rw [decide_eq_true g, Bool.not_true, Bool.false_or]
        rw [decide_eq_false (show ¬ lv i < l by omega), Bool.false_or] at q
        rw [← hdep i (List.mem_range.mp hi) e ch (fun k hk => by
          rw [lo k (by omega)]
          unfold r_ud
          rw [if_neg (by omega)])]
        exact q
      · rw [decide_eq_false g]; rfl
/-- a condition looks only at the slots before its level -/
theorem r_ucd_dep {Xs : Nat → r_Pt} {tw : Nat → Nat} {ms : List (Nat ⊕ Nat)} {l : Nat} (hl : l ≤ 3) {c : r_Cd} (h : r_ucd Xs tw ms l c) (tb : (Nat ⊕ Nat) → List (Nat → Int64)) {e ch : Nat → r_Row} (he : ∀ k, k < l → e k = ch k) : r_cd tb (r_en e) c = r_cd tb (r_en ch) c := by
  cases c with
  | inl b => exact r_cp_cg (D := fun k j => k < l ∧ r_V Xs tw (r_ml ms k) j ∧ j ≤ 3) (fun k i hk => by unfold r_en; rw [he k hk.1]) h
  | inr z =>
    have h' : ∀ b ∈ z.2, r_ucp (fun k j => ((k < l ∧ r_V Xs tw (r_ml ms k) j) ∨ (k = 3 ∧ r_V Xs tw z.1 j)) ∧ j ≤ 3) b := h
    show (!((tb z.1).any fun row => z.2.all (r_cp (r_up (r_en e) 3 row)))) = (!((tb z.1).any fun row => z.2.all (r_cp (r_up (r_en ch) 3 row))))
    have ex : ∀ row, z.2.all (r_cp (r_up (r_en e) 3 row)) = z.2.all (r_cp (r_up (r_en ch) 3 row)) := fun row => by
      rw [Bool.eq_iff_iff, List.all_eq_true, List.all_eq_true]
      have eq : ∀ b ∈ z.2, r_cp (r_up (r_en e) 3 row) b = r_cp (r_up (r_en ch) 3 row) b := fun b hb => r_cp_cg (fun k i hk => by
        unfold r_up
        by_cases q : k = 3
        · rw [if_pos q, if_pos q]
        · rw [if_neg q, if_neg q]
          have kl : k < l := by
            rcases hk.1 with x | x
            · exact x.1
            · exact absurd x.1 q
          unfold r_en
          rw [he k kl]) (h' b hb)
      exact ⟨fun q b hb => by rw [← eq b hb]; exact q b hb, fun q b hb => by rw [eq b hb]; exact q b hb⟩
    have ef : (fun row => z.2.all (r_cp (r_up (r_en e) 3 row))) = fun row => z.2.all (r_cp (r_up (r_en ch) 3 row)) := funext ex
    rw [ef]
