/-! RUNNING (reference): combinations, counted through (pure) -/
def r_pu (p : Nat → Nat) (k a : Nat) : Nat → Nat := fun j => if j = k then a else p j
def r_pz (l d : Nat) (p : Nat → Nat) : Nat → Nat := fun j => if l ≤ j ∧ j < l + d then 0 else p j
def r_nx (cs : Nat → Nat) : Nat → (Nat → Nat) → Option (Nat → Nat)
  | 0, _ => none
  | k + 1, p => if p k = cs k - 1 then r_nx cs k (r_pu p k 0) else some (r_pu p k (p k + 1))
def r_all (cs : Nat → Nat) : Nat → Nat → (Nat → Nat) → List (Nat → Nat)
  | 0, _, p => [p]
  | d + 1, l, p => (List.range (cs l)).flatMap fun a => r_all cs d (l + 1) (r_pu p l a)
def r_rest (cs : Nat → Nat) : Nat → Nat → (Nat → Nat) → List (Nat → Nat)
  | 0, _, _ => []
  | d + 1, l, p => r_rest cs d (l + 1) p ++ (List.range' (p l + 1) (cs l - (p l + 1))).flatMap fun a => r_all cs d (l + 1) (r_pu p l a)
theorem r_all_cg (cs : Nat → Nat) : ∀ (d l : Nat) (p p' : Nat → Nat), (∀ k, ¬ (l ≤ k ∧ k < l + d) → p k = p' k) → r_all cs d l p = r_all cs d l p' := by
  intro d
  induction d with
  | zero =>
    intro l p p' h
    have e : p = p' := funext fun k => h k (by omega)
    rw [e]
  | succ d ih =>
    intro l p p' h
    unfold r_all
    refine congrArg (fun f => List.flatMap f (List.range (cs l))) (funext fun a => ih (l + 1) _ _ (fun k hk => ?_))
    unfold r_pu
    by_cases e : k = l
    · rw [if_pos e, if_pos e]
    · rw [if_neg e, if_neg e]
      exact h k (by omega)
theorem r_all_mem (cs : Nat → Nat) : ∀ (d l : Nat) (p q : Nat → Nat), q ∈ r_all cs d l p → (∀ k, ¬ (l ≤ k ∧ k < l + d) → q k = p k) ∧ ∀ k, l ≤ k → k < l + d → q k < cs k := by
  intro d
  induction d with
  | zero =>
    intro l p q h
    rw [r_all, List.mem_singleton] at h
    exact ⟨fun k _ => by rw [h], fun k h1 h2 => by omega⟩
  | succ d ih =>
    intro l p q h
    rw [r_all, List.mem_flatMap] at h
    obtain ⟨a, h1, h2⟩ := h
    obtain ⟨i1, i2⟩ := ih (l + 1) _ q h2
    have al := List.mem_range.mp h1
    have ql : q l = a := by
      rw [i1 l (by omega)]
      unfold r_pu
      rw [if_pos rfl]
    refine ⟨fun k hk => ?_, fun k h3 h4 => ?_⟩
    · rw [i1 k (by omega)]
      unfold r_pu
      rw [if_neg (by omega)]
    · by_cases e : k = l
      · rw [e, ql]; exact al
      · exact i2 k (by omega) (by omega)
theorem r_all_hd (cs : Nat → Nat) : ∀ (d l : Nat) (p : Nat → Nat), (∀ k, l ≤ k → k < l + d → 0 < cs k) → r_all cs d l p = r_pz l d p :: r_rest cs d l (r_pz l d p) := by
  intro d
  induction d with
  | zero =>
    intro l p _
    have e : r_pz l 0 p = p := funext fun k => by unfold r_pz; rw [if_neg (by omega)]
    rw [e]
    rfl
  | succ d ih =>
    intro l p h
    have h0 := h l (by omega) (by omega)
    have ez : r_pz (l + 1) d (r_pu p l 0) = r_pz l (d + 1) p := funext fun k => by
      unfold r_pz r_pu
      by_cases e : k = l
      · rw [if_neg (by omega), if_pos e, if_pos (by omega)]
      · by_cases g : l + 1 ≤ k ∧ k < l + 1 + d
        · rw [if_pos g, if_pos (by omega)]
        · rw [if_neg g, if_neg e, if_neg (by omega)]
    have zl : r_pz l (d + 1) p l = 0 := by unfold r_pz; rw [if_pos (by omega)]
    rw [r_all, r_rest, zl]
    obtain ⟨c, hc⟩ : ∃ c, cs l = c + 1 := ⟨cs l - 1, by omega⟩
    rw [hc, List.range_eq_range', List.range'_succ, List.flatMap_cons, ih (l + 1) _ (fun k h1 h2 => h k (by omega) (by omega)), ez, List.cons_append]
    refine congrArg (fun x => r_pz l (d + 1) p :: (r_rest cs d (l + 1) (r_pz l (d + 1) p) ++ x)) ?_
    rw [show c + 1 - (0 + 1) = c by omega]
    refine congrArg (fun f => List.flatMap f (List.range' (0 + 1) c)) (funext fun a => r_all_cg cs _ _ _ _ (fun k hk => ?_))
    unfold r_pu r_pz
    by_cases e : k = l
    · rw [if_pos e, if_pos e]
    · rw [if_neg e, if_neg e, if_neg (by omega)]
theorem r_nx_rest (cs : Nat → Nat) : ∀ (d l : Nat) (p : Nat → Nat), (∀ k, l ≤ k → k < l + d → p k < cs k) → (r_rest cs d l p = [] ∧ r_nx cs (l + d) p = r_nx cs l (r_pz l d p)) ∨ ∃ p', r_rest cs d l p = p' :: r_rest cs d l p' ∧ r_nx cs (l + d) p = some p' ∧ (∀ k, ¬ (l ≤ k ∧ k < l + d) → p' k = p k) ∧ ∀ k, l ≤ k → k < l + d → p' k < cs k := by
  intro d
  induction d with
  | zero =>
    intro l p _
    have e : r_pz l 0 p = p := funext fun k => by unfold r_pz; rw [if_neg (by omega)]
    exact Or.inl ⟨rfl, by rw [e, Nat.add_zero]⟩
  | succ d ih =>
    intro l p h
    have hl := h l (by omega) (by omega)
    rw [show l + (d + 1) = l + 1 + d by omega]
    rcases ih (l + 1) p (fun k h1 h2 => h k (by omega) (by omega)) with ⟨a1, a2⟩ | ⟨p', a1, a2, a3, a4⟩
    · have ql : r_pz (l + 1) d p l = p l := by unfold r_pz; rw [if_neg (by omega)]
      rw [a2, r_nx, ql]
      by_cases e : p l = cs l - 1
      · rw [if_pos e]
        left
        refine ⟨?_, congrArg (r_nx cs l) (funext fun k => ?_)⟩
        · rw [r_rest, a1, show cs l - (p l + 1) = 0 by omega]
          rfl
        · unfold r_pu r_pz
          by_cases g : k = l
          · rw [if_pos g, if_pos (by omega)]
          · rw [if_neg g]
            by_cases g2 : l + 1 ≤ k ∧ k < l + 1 + d
            · rw [if_pos g2, if_pos (by omega)]
            · rw [if_neg g2, if_neg (by omega)]
      · rw [if_neg e]
        right
        have ez : r_pz (l + 1) d (r_pu p l (p l + 1)) = r_pu (r_pz (l + 1) d p) l (p l + 1) := funext fun k => by
          unfold r_pz r_pu
          by_cases g : k = l
          · rw [if_neg (by omega), if_pos g, if_pos g]
          · rw [if_neg g, if_neg g]
        have zl : r_pu (r_pz (l + 1) d p) l (p l + 1) l = p l + 1 := by unfold r_pu; rw [if_pos rfl]
        refine ⟨r_pu (r_pz (l + 1) d p) l (p l + 1), ?_, rfl, fun k hk => ?_, fun k h1 h2 => ?_⟩
        · rw [r_rest, a1, List.nil_append, r_rest, zl]
          obtain ⟨c, hc⟩ : ∃ c, cs l - (p l + 1) = c + 1 := ⟨cs l - (p l + 1) - 1, by omega⟩
          rw [hc, List.range'_succ, List.flatMap_cons, r_all_hd cs d (l + 1) _ (fun k h1 h2 => by have := h k (by omega) (by omega); omega), ez, List.cons_append, show cs l - (p l + 1 + 1) = c by omega]
          refine congrArg (fun x => r_pu (r_pz (l + 1) d p) l (p l + 1) :: (r_rest cs d (l + 1) (r_pu (r_pz (l + 1) d p) l (p l + 1)) ++ x)) ?_
          refine congrArg (fun f => List.flatMap f (List.range' (p l + 1 + 1) c)) (funext fun a => r_all_cg cs _ _ _ _ (fun k hk => ?_))
          unfold r_pu r_pz
          by_cases g : k = l
          · rw [if_pos g, if_pos g]
          · rw [if_neg g, if_neg g, if_neg g, if_neg (by omega)]
        · unfold r_pu r_pz
          rw [if_neg (by omega), if_neg (by omega)]
        · unfold r_pu r_pz
          by_cases g : k = l
          · rw [if_pos g, g]; omega
          · rw [if_neg g, if_pos (by omega)]
            have := h k h1 (by omega)
            omega
    · right
      refine ⟨p', ?_, a2, fun k hk => a3 k (by omega), fun k h1 h2 => ?_⟩
      · have pl : p' l = p l := a3 l (by omega)
        rw [r_rest, a1, r_rest, pl, List.cons_append]
        refine congrArg (fun x => p' :: (r_rest cs d (l + 1) p' ++ x)) ?_
        refine congrArg (fun f => List.flatMap f (List.range' (p l + 1) (cs l - (p l + 1)))) (funext fun a => r_all_cg cs _ _ _ _ (fun k hk => ?_))
        unfold r_pu
        by_cases g : k = l
        · rw [if_pos g, if_pos g]
        · rw [if_neg g, if_neg g]
          exact (a3 k (by omega)).symm
      · by_cases g : k = l
        · rw [g, a3 l (by omega)]; exact hl
        · exact a4 k (by omega) (by omega)
/-- the rows of a pick -/
def r_pc (rs : Nat → List r_Row) (n : Nat) (p : Nat → Nat) : Nat → r_Row := fun k => if k < n then (rs k).getD (p k) [] else []
theorem r_fu_all (rs : Nat → List r_Row) : ∀ (d l : Nat) (p : Nat → Nat) (ch : Nat → r_Row), r_fu rs d l ch = (r_all (fun k => (rs k).length) d l p).map fun q k => if l ≤ k ∧ k < l + d then (rs k).getD (q k) [] else ch k := by
  intro d
  induction d with
  | zero =>
    intro l p ch
    rw [r_fu, r_all, List.map_cons, List.map_nil]
    refine congrArg (fun x => [x]) (funext fun k => ?_)
    rw [if_neg (by omega)]
  | succ d ih =>
    intro l p ch
    rw [r_fu, r_all, List.map_flatMap]
    have er : rs l = (List.range (rs l).length).map fun i => (rs l).getD i [] := by
      refine List.ext_getElem (by rw [List.length_map, List.length_range]) (fun i h1 h2 => ?_)
      rw [List.getElem_map, List.getElem_range, List.getD_eq_getElem?_getD, List.getElem?_eq_getElem h1]
      rfl
    have e1 : (rs l).flatMap (fun a => r_fu rs d (l + 1) (r_ud ch l a)) = ((List.range (rs l).length).map fun i => (rs l).getD i []).flatMap (fun a => r_fu rs d (l + 1) (r_ud ch l a)) := congrArg (fun x => List.flatMap (fun a => r_fu rs d (l + 1) (r_ud ch l a)) x) er
    rw [e1, List.flatMap_map]
    refine congrArg (fun f => List.flatMap f (List.range (rs l).length)) (funext fun i => ?_)
    rw [ih (l + 1) (r_pu p l i)]
    refine List.map_congr_left (fun q hq => funext fun k => ?_)
    have ql : q l = i := by
      rw [(r_all_mem _ _ _ _ _ hq).1 l (by omega)]
      unfold r_pu
      rw [if_pos rfl]
    by_cases g : k = l
    · rw [if_neg (by omega), if_pos (by omega), g, ql]
      unfold r_ud
      rw [if_pos rfl]
    · by_cases g2 : l + 1 ≤ k ∧ k < l + 1 + d
      · rw [if_pos g2, if_pos (by omega)]
      · rw [if_neg g2, if_neg (by omega)]
        unfold r_ud
        rw [if_neg g]
theorem r_fu_pc (rs : Nat → List r_Row) (n : Nat) (p : Nat → Nat) : r_fu rs n 0 (fun _ => []) = (r_all (fun k => (rs k).length) n 0 p).map (r_pc rs n) := by
  rw [r_fu_all rs n 0 p]
  refine List.map_congr_left (fun q _ => funext fun k => ?_)
  unfold r_pc
  by_cases g : k < n
  · rw [if_pos (by omega), if_pos g]
  · rw [if_neg (by omega), if_neg g]
theorem r_all_len (cs : Nat → Nat) : ∀ (d l : Nat) (p : Nat → Nat), (∀ k, l ≤ k → k < l + d → cs k ≤ 48) → (r_all cs d l p).length ≤ 48 ^ d := by
  intro d
  induction d with
  | zero => intro l p _; exact Nat.le_refl _
  | succ d ih =>
    intro l p h
    rw [r_all, List.length_flatMap]
    have h1 : ∀ n, (List.map (fun a => (r_all cs d (l + 1) (r_pu p l a)).length) (List.range n)).sum ≤ n * 48 ^ d := by
      intro n
      induction n with
      | zero => exact Nat.le_of_eq (by rw [Nat.zero_mul]; rfl)
      | succ n ihn =>
        rw [List.range_succ, List.map_append, List.sum_append]
        have := ih (l + 1) (r_pu p l n) (fun k h1 h2 => h k (by omega) (by omega))
        rw [Nat.add_mul, Nat.one_mul]
        refine Nat.add_le_add ihn ?_
        show _ + 0 ≤ _
        rw [Nat.add_zero]
        exact this
    refine Nat.le_trans (h1 (cs l)) ?_
    rw [Nat.pow_succ, Nat.mul_comm]
    exact Nat.mul_le_mul_left _ (h l (by omega) (by omega))
