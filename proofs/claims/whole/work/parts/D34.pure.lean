/-! RUNNING: what working a selection keeps (pure) -/
theorem z_fold_mem {α β : Type} (P : α → Prop) (f : α → β → α) : ∀ (l : List β) (a : α), (∀ b ∈ l, ∀ a, P a → P (f a b)) → P a → P (l.foldl f a) := by
  intro l
  induction l with
  | nil => intro a _ ha; exact ha
  | cons b l ih =>
    intro a h ha
    rw [List.foldl_cons]
    exact ih _ (fun c hc => h c (List.mem_cons_of_mem _ hc)) (h b (List.mem_cons_self ..) a ha)
theorem r_work_inv2 {α : Type} {its : List r_It} {al : Nat} {put : (Nat → r_Row) → (Nat → Int64) → α → α} {fo : α → Bool} {L : List (Nat → r_Row)} {a0 a : α} (P : α → Prop) (h1 : r_gc its = 0 → ∀ e ∈ L, ¬ r_bad its (r_en e) → ∀ a, P a → P (put e (r_iv its (r_en e)) a)) (h2 : r_gc its ≠ 0 → (∀ e ∈ L, ¬ r_bad its (r_en e)) → ¬ r_gbad its.length (r_gfold its al L).1 → ∀ g ∈ (r_gfold its al L).1, ∀ a, P a → P (put (fun _ => []) (r_gv its g) a)) (h0 : P a0) (h : r_work its al put fo L a0 = .inl a) : P a := by
  unfold r_work at h
  by_cases nb : (L.any fun e => r_badb its (r_en e)) = true
  · rw [if_pos nb] at h; cases h
  · rw [if_neg nb] at h
    have nb' : ∀ e ∈ L, ¬ r_bad its (r_en e) := fun e he hb => nb (List.any_eq_true.mpr ⟨e, he, (r_badb_iff _ _).mpr hb⟩)
    by_cases gz : r_gc its = 0
    · rw [if_pos gz] at h
      split at h
      · cases h
      · cases h
        exact z_fold_mem P _ L a0 (fun e he a ha => h1 gz e he (nb' e he) a ha) h0
    · rw [if_neg gz] at h
      split at h
      · cases h
      · by_cases gb : r_gbadb its.length (r_gfold its al L).1 = true
        · rw [if_pos gb] at h; cases h
        · rw [if_neg gb] at h
          split at h
          · cases h
          · cases h
            exact z_fold_mem P _ _ a0 (fun g hg a ha => h2 gz nb' (fun q => gb ((r_gbadb_iff _ _).mpr q)) g hg a ha) h0
theorem r_oor_N : r_oor r_N = false := by decide
theorem r_oor_n {c : Nat} (h : c < 2 ^ 30) : r_oor (Int64.ofNat c) = false := by
  have e : (Int64.ofNat c).toInt = (c : Int) := by
    rw [Int64.toInt_ofNat_of_lt (by omega)]
  unfold r_oor
  rw [decide_eq_false (show ¬ Int64.ofNat c < -2147483648 from by rw [Int64.lt_iff_toInt_lt, e, show (-2147483648 : Int64).toInt = -2147483648 from rfl]; omega), decide_eq_true (show Int64.ofNat c ≤ 2147483647 from by rw [Int64.le_iff_toInt_le, e, show (2147483647 : Int64).toInt = 2147483647 from rfl]; omega)]
  simp
/-- what is known of the groups -/
def r_gi (its : List r_It) (N : Nat) (gs : List r_Gp) : Prop := ∀ g ∈ gs, ∀ i, i < its.length → ((its.getD i r_it0).1 = 0 → r_oor (g.1 i) = false) ∧ ((its.getD i r_it0).1 = 20 → ∃ c, c ≤ N ∧ g.1 i = Int64.ofNat c)
theorem r_gi_fold {its : List r_It} {N : Nat} {env : Nat → Nat → Int64} {g : r_Gp} (h : ∀ i, i < its.length → ((its.getD i r_it0).1 = 0 → r_oor (g.1 i) = false) ∧ ((its.getD i r_it0).1 = 20 → ∃ c, c ≤ N ∧ g.1 i = Int64.ofNat c)) : ∀ i, i < its.length → ((its.getD i r_it0).1 = 0 → r_oor ((r_fold its env g).1 i) = false) ∧ ((its.getD i r_it0).1 = 20 → ∃ c, c ≤ N + 1 ∧ (r_fold its env g).1 i = Int64.ofNat c) := by
  intro i hi
  obtain ⟨h1, h2⟩ := h i hi
  have e : (r_fold its env g).1 i = (r_fd its env g i).1 := by unfold r_fold; simp only [if_pos hi]
  rw [e]
  refine ⟨fun z => ?_, fun z => ?_⟩
  · have : r_fd its env g i = (g.1 i, g.2 i) := by unfold r_fd; rw [if_neg (by omega), if_pos z]
    rw [this]; exact h1 z
  · have : r_fd its env g i = (g.1 i + 1, g.2 i) := by unfold r_fd; rw [if_pos z]
    rw [this]
    obtain ⟨c, c1, c2⟩ := h2 z
    exact ⟨c + 1, by omega, by show g.1 i + 1 = _; rw [c2, Int64.ofNat_add]; rfl⟩
theorem r_gi_gat {its : List r_It} {al N : Nat} {env : Nat → Nat → Int64} {a : List r_Gp × Bool} (nb : ¬ r_bad its env) (h : r_gi its N a.1) : r_gi its (N + 1) (r_gat its al env (r_iv its env) a).1 := by
  have up : r_gi its (N + 1) a.1 := fun g hg i hi => ⟨(h g hg i hi).1, fun z => by obtain ⟨c, c1, c2⟩ := (h g hg i hi).2 z; exact ⟨c, by omega, c2⟩⟩
  unfold r_gat
  cases hz : r_gfd its (r_iv its env) a.1 with
  | some n =>
    intro g hg
    have hg' : g ∈ a.1.set n (r_fold its env (a.1.getD n r_gp0)) := hg
    have hn : n < a.1.length := by unfold r_gfd at hz; have := (z_ff_some hz).2.1; omega
    rcases List.mem_or_eq_of_mem_set hg' with q | q
    · exact up g q
    · rw [q]
      exact r_gi_fold (h _ (by rw [List.getD_eq_getElem?_getD, List.getElem?_eq_getElem hn]; exact List.getElem_mem hn))
  | none =>
    show r_gi its (N + 1) (if a.1.length < al then _ else _ : List r_Gp × Bool).1
    by_cases l : a.1.length < al
    · rw [if_pos l]
      intro g hg
      have hg' : g ∈ a.1 ++ [r_fold its env (r_g1 its (r_iv its env))] := hg
      rcases List.mem_append.mp hg' with q | q
      · exact up g q
      · rw [List.mem_singleton] at q
        rw [q]
        refine r_gi_fold (fun i hi => ⟨fun z => ?_, fun z => ⟨0, by omega, ?_⟩⟩)
        · show r_oor (if (its.getD i r_it0).1 = 0 then r_iv its env i else 0) = false
          rw [if_pos z]
          cases ho : r_oor (r_iv its env i) with
          | false => rfl
          | true => exact absurd ⟨i, hi, z, ho⟩ nb
        · show (if (its.getD i r_it0).1 = 0 then r_iv its env i else 0) = _
          rw [if_neg (by omega)]; rfl
    · rw [if_neg l]; exact up
theorem r_gi_all {its : List r_It} {al : Nat} {L : List (Nat → r_Row)} (nb : ∀ e ∈ L, ¬ r_bad its (r_en e)) : r_gi its L.length (r_gfold its al L).1 := by
  have key : ∀ (L : List (Nat → r_Row)) (N : Nat) (a : List r_Gp × Bool), (∀ e ∈ L, ¬ r_bad its (r_en e)) → r_gi its N a.1 → r_gi its (N + L.length) (L.foldl (fun g e => r_gat its al (r_en e) (r_iv its (r_en e)) g) a).1 := by
    intro L
    induction L with
    | nil => intro N a _ h; exact h
    | cons e L ih =>
      intro N a nb h
      rw [List.foldl_cons, List.length_cons, show N + (L.length + 1) = N + 1 + L.length by omega]
      exact ih (N + 1) _ (fun e' he => nb e' (List.mem_cons_of_mem _ he)) (r_gi_gat (nb e (List.mem_cons_self ..)) h)
  have := key L 0 (r_gs0 its, false) nb (fun g hg i hi => by
    have hg' : g ∈ r_gs0 its := hg
    unfold r_gs0 at hg'
    by_cases c : r_gc its = its.length
    · rw [if_pos c, List.mem_singleton] at hg'
      rw [hg']
      refine ⟨fun z => ?_, fun z => ⟨0, Nat.le_refl _, ?_⟩⟩
      · show r_oor (if (its.getD i r_it0).1 = 0 then r_c0 i else 0) = false
        rw [if_pos z]
        exact (by decide : r_oor 0 = false)
      · show (if (its.getD i r_it0).1 = 0 then r_c0 i else 0) = _
        rw [if_neg (by omega)]; rfl
    · rw [if_neg c] at hg'; cases hg')
  rw [Nat.zero_add] at this
  exact this
/-- a group's row is in range -/
theorem r_gv_ok {its : List r_It} {al : Nat} {L : List (Nat → r_Row)} (nb : ∀ e ∈ L, ¬ r_bad its (r_en e)) (gb : ¬ r_gbad its.length (r_gfold its al L).1) (hL : L.length < 2 ^ 30) {g : r_Gp} (hg : g ∈ (r_gfold its al L).1) {i : Nat} (hi : i < its.length) : r_oor (r_gv its g i) = false := by
  obtain ⟨h1, h2⟩ := r_gi_all nb g hg i hi
  unfold r_gv
  by_cases c0 : (its.getD i r_it0).1 = 0
  · rw [if_pos (Or.inl c0)]; exact h1 c0
  · by_cases c20 : (its.getD i r_it0).1 = 20
    · rw [if_pos (Or.inr (Or.inl c20))]
      obtain ⟨c, k1, k2⟩ := h2 c20
      rw [k2]
      exact r_oor_n (by omega)
    · by_cases t : g.2 i = true
      · rw [if_pos (Or.inr (Or.inr t))]
        cases ho : r_oor (g.1 i) with
        | false => rfl
        | true =>
          obtain ⟨n, hn, en⟩ := List.getElem_of_mem hg
          exact absurd ⟨n, hn, i, hi, by rw [List.getD_eq_getElem?_getD, List.getElem?_eq_getElem hn, en]; exact ⟨t, Or.inr ho⟩⟩ gb
      · rw [if_neg (by
          rintro (q | q | q)
          · exact c0 q
          · exact c20 q
          · exact t q)]
        exact r_oor_N
