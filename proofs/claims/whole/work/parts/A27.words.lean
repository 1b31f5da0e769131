/-! TOKENS: what the check and the run want of names and numbers -/
def z_NM (n : Nat) (kd : Nat → Nat) (wd vl : Nat → Int64) (nw nv : Nat → Nat) : Prop := (∀ i, i < n → kd i = 36 → wd i = Int64.ofNat (nw i) ∧ vl i = Int64.ofNat (nv i) ∧ 1 ≤ nw i ∧ nw i < 2 ^ 48 ∧ 1 ≤ nv i ∧ nv i < 2 ^ 48) ∧ (∀ i j, i < n → j < n → kd i = 36 → kd j = 36 → (nw i = nw j ↔ nv i = nv j)) ∧ (∀ i t, i < n → kd i = 36 → t < 5 → (nw i = 29744 + t ↔ nv i = 767 + t)) ∧ (∀ i k, i < n → kd i = 36 → k < 3 → (nw i = 97 + k ↔ nv i = k + 1)) ∧ (∀ i, i < n → kd i = 37 → wd i = vl i ∧ ∃ m, m < 10000 ∧ wd i = Int64.ofNat m)
section
variable {len : Nat} {T : Nat → Nat}
theorem z_Htok (hl : len ≤ 400) : z_H (z_n len T) (z_kdT len T) := by
  refine ⟨fun i => ?_, Nat.le_trans (z_n_le len T) hl, fun p hp h => ?_⟩
  · unfold z_kdT
    split
    · exact z_kind_lt _ _ _
    · decide
  · by_cases w : p < z_n len T
    · exact w
    · exfalso
      unfold z_kdT at h
      rw [if_neg w] at h
      exact h rfl
theorem z_kd37 {j : Nat} (h : z_kdT len T j = 37) : j < z_n len T ∧ z_dg (T (z_pl len T j)) = true ∧ z_tend len T (z_pl len T j) - z_pl len T j ≤ 4 := by
  unfold z_kdT at h
  by_cases q : j < z_n len T
  · rw [if_pos q] at h
    unfold z_kind at h
    refine ⟨q, ?_⟩
    by_cases s : z_sm (T (z_pl len T j)) = true
    · rw [if_pos s] at h
      split at h <;> cases h
    · rw [if_neg s] at h
      by_cases g : z_dg (T (z_pl len T j)) = true
      · rw [if_pos g] at h
        by_cases l : z_tend len T (z_pl len T j) - z_pl len T j ≤ 4
        · exact ⟨g, l⟩
        · rw [if_neg l] at h; cases h
      · rw [if_neg g] at h
        have fk : ∀ (w : List Nat) (d k : Nat), k + d ≤ 36 → z_fk w d k ≠ 37 := by
          intro w d
          induction d with
          | zero => intro k _ e; cases e
          | succ d ih =>
            intro k hk e
            rw [z_fk] at e
            split at e
            · omega
            · exact ih (k + 1) (by omega) e
        exact absurd h (fk _ 36 0 (by decide))
  · rw [if_neg q] at h; cases h
theorem z_num_ok {j : Nat} (h : z_kdT len T j = 37) : z_wdE len T j = z_vlT len T j ∧ ∃ m, m < 10000 ∧ z_wdE len T j = Int64.ofNat m := by
  obtain ⟨q, g, l⟩ := z_kd37 h
  have hp := (z_pl_in q).1
  have hg : 48 ≤ T (z_pl len T j) ∧ T (z_pl len T j) ≤ 57 := of_decide_eq_true g
  have ns : ¬ z_sm (T (z_pl len T j)) = true := by unfold z_sm; rw [decide_eq_true_eq]; omega
  have hE : z_tend len T (z_pl len T j) = z_run T (T (z_pl len T j)) (len - z_pl len T j) (z_pl len T j) := by
    unfold z_tend
    rw [if_neg (fun w => by omega), z_run_first (by unfold z_bl; rw [if_neg ns, if_pos g]; exact g) hp]
  have hte := z_tend_le (T := T) hp
  have hin : ∀ x, z_pl len T j ≤ x → x < z_tend len T (z_pl len T j) → 48 ≤ T x ∧ T x ≤ 57 := fun x h1 h2 => by
    rw [hE] at h2
    have := z_run_in T _ _ _ x h1 h2
    unfold z_bl at this
    rw [if_neg ns, if_pos g] at this
    exact of_decide_eq_true this
  have e1 : z_wdE len T j = Int64.ofNat (z_fo 10 (fun c => c - 48) ((List.range (z_tend len T (z_pl len T j) - z_pl len T j)).map fun x => T (z_pl len T j + x)) 0) := by
    unfold z_wdE
    rw [if_pos q, h]
    unfold z_wE
    rw [if_pos rfl]
    exact z_dE_eq T _ _ 0 (fun x h1 h2 => hin x h1 (by omega))
  have e2 : z_vlT len T j = Int64.ofNat (z_fo 10 (fun c => c - 48) ((List.range (z_tend len T (z_pl len T j) - z_pl len T j)).map fun x => T (z_pl len T j + x)) 0) := by
    unfold z_vlT
    rw [if_pos q]
    unfold z_vM
    rw [if_neg (by unfold z_cp; rw [decide_eq_true_eq]; omega), if_neg ns, if_pos g]
    exact z_dM_eq T _ _ _ 0 (fun x h1 h2 => hin x h1 (by omega)) (Nat.le_refl _) (by omega)
  refine ⟨e1.trans e2.symm, _, ?_, e1⟩
  have a := z_fo_lt (B := 10) (f := fun c => c - 48) ((List.range (z_tend len T (z_pl len T j) - z_pl len T j)).map fun x => T (z_pl len T j + x)) 0 0 (fun c hc => by
    obtain ⟨x, hx, rfl⟩ := List.mem_map.mp hc
    have := List.mem_range.mp hx
    have := hin (z_pl len T j + x) (by omega) (by omega)
    omega) (by decide)
  rw [List.length_map, List.length_range] at a
  have b : 10 ^ (0 + (z_tend len T (z_pl len T j) - z_pl len T j)) ≤ 10 ^ 4 := Nat.pow_le_pow_right (by decide) (by omega)
  exact Nat.lt_of_lt_of_le a (Nat.le_trans b (by decide))
theorem z_fo_pos {B : Nat} {f : Nat → Nat} (hB : 1 ≤ B) : ∀ (cs : List Nat) (v : Nat), (∀ c ∈ cs, 1 ≤ f c) → (1 ≤ v ∨ cs ≠ []) → 1 ≤ z_fo B f cs v := by
  intro cs
  induction cs with
  | nil => intro v _ h; rcases h with h | h; exact h; exact absurd rfl h
  | cons c cs ih =>
    intro v h _
    rw [z_fo]
    exact ih _ (fun x hx => h x (List.mem_cons_of_mem _ hx)) (Or.inl (by have := h c (List.mem_cons_self ..); omega))
theorem z_NMtok (hT : ∀ j, j < len → T j < 256) : z_NM (z_n len T) (z_kdT len T) (z_wdE len T) (z_vlT len T) (fun j => z_fo 256 (fun c => c) (z_nm len T j) 0) (fun j => z_fo 37 z_f37 (z_nm len T j) 0) := by
  have ne : ∀ i, z_kdT len T i = 36 → z_nm len T i ≠ [] := fun i hi e => by
    obtain ⟨q, -, -⟩ := z_kd36 hT hi
    have hp := (z_pl_in q).1
    have hte := z_tend_le (T := T) hp
    have : (z_nm len T i).length = z_tend len T (z_pl len T i) - z_pl len T i := by unfold z_nm; rw [z_w_len]
    rw [e] at this
    have : (0 : Nat) = z_tend len T (z_pl len T i) - z_pl len T i := this
    omega
  refine ⟨fun i hi hk => ?_, fun i j hi hj hki hkj => ?_, fun i t hi hk ht => ?_, fun i k hi hk hk3 => ?_, fun i hi hk => z_num_ok hk⟩
  · obtain ⟨a1, a2, a3, a4⟩ := z_name_ok hT hk
    refine ⟨a3, a4, z_fo_pos (by decide) _ _ (fun c hc => by rcases a1 c hc with q | q <;> omega) (Or.inr (ne i hk)), ?_, z_fo_pos (by decide) _ _ (fun c hc => (z_f37_ok (a1 c hc)).1) (Or.inr (ne i hk)), ?_⟩
    · have a := z_fo_lt (B := 256) (f := fun c => c) (z_nm len T i) 0 0 (fun c hc => by rcases a1 c hc with q | q <;> omega) (by decide)
      have b : 256 ^ (0 + (z_nm len T i).length) ≤ 256 ^ 6 := Nat.pow_le_pow_right (by decide) (by omega)
      exact Nat.lt_of_lt_of_le a (Nat.le_trans b (by decide))
    · have a := z_fo_lt (B := 37) (f := z_f37) (z_nm len T i) 0 0 (fun c hc => (z_f37_ok (a1 c hc)).2) (by decide)
      have b : 37 ^ (0 + (z_nm len T i).length) ≤ 37 ^ 6 := Nat.pow_le_pow_right (by decide) (by omega)
      exact Nat.lt_of_lt_of_le a (Nat.le_trans b (by decide))
  · obtain ⟨a1, -, -, -⟩ := z_name_ok hT hki
    obtain ⟨b1, -, -, -⟩ := z_name_ok hT hkj
    exact (z_n256_eq a1 b1).trans (z_n37_eq a1 b1).symm
  · obtain ⟨a1, -, -, -⟩ := z_name_ok hT hk
    have b1 : ∀ c ∈ [116, 48 + t], z_nc c := fun c hc => by
      simp only [List.mem_cons, List.not_mem_nil, or_false] at hc
      unfold z_nc
      omega
    have e1 : z_fo 256 (fun c => c) [116, 48 + t] 0 = 29744 + t := by show 256 * (256 * 0 + 116) + (48 + t) = _; omega
    have e2 : z_fo 37 z_f37 [116, 48 + t] 0 = 767 + t := by
      show 37 * (37 * 0 + z_f37 116) + z_f37 (48 + t) = _
      have : z_f37 116 = 20 := by decide
      have : z_f37 (48 + t) = 27 + t := by unfold z_f37 z_dg; rw [if_pos (decide_eq_true (by omega))]; omega
      omega
    have h1 := z_n256_eq a1 b1
    have h2 := z_n37_eq a1 b1
    rw [e1] at h1
    rw [e2] at h2
    exact h1.trans h2.symm
  · obtain ⟨a1, -, -, -⟩ := z_name_ok hT hk
    have b1 : ∀ c ∈ [97 + k], z_nc c := fun c hc => by
      rw [List.mem_singleton.mp hc]
      unfold z_nc
      omega
    have e1 : z_fo 256 (fun c => c) [97 + k] 0 = 97 + k := by show 256 * 0 + (97 + k) = _; omega
    have e2 : z_fo 37 z_f37 [97 + k] 0 = k + 1 := by
      show 37 * 0 + z_f37 (97 + k) = _
      have : z_f37 (97 + k) = 1 + k := by unfold z_f37 z_dg; rw [if_neg (by rw [decide_eq_true_eq]; omega)]; omega
      omega
    have h1 := z_n256_eq a1 b1
    have h2 := z_n37_eq a1 b1
    rw [e1] at h1
    rw [e2] at h2
    exact h1.trans h2.symm
end
