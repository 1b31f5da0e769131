/-! THE QUERY AS THE RUN HAS IT: the query's own selection, its order -/
def t_k1 (nw : Nat → Nat) (x : z_Qu) (tc : Nat) (cols : Nat → Nat) (t : Nat) : Nat × Nat := ((z_slt nw x.2.2.1.2.2.1 t none).getD 0, (z_tcl nw x.2.1 tc cols x.2.2.1.2.2.1 none t).getD 0)
def t_ot (x : z_Qu) : List Nat := match x.2.2.2 with
  | none => []
  | some y => y.2
def t_ks (nw : Nat → Nat) (x : z_Qu) (tc : Nat) (cols : Nat → Nat) : List (Nat × Nat) := (t_ot x).map (t_k1 nw x tc cols)
def t_prt : Nat ⊕ Nat → Nat
  | .inl q => q
  | .inr _ => 0
def t_pp (nw : Nat → Nat) (x : z_Qu) (tc : Nat) (cols : Nat → Nat) (k : Nat) : Nat := t_prt (r_ml (t_ms nw x tc x.2.2.1.2.2.1) ((t_ks nw x tc cols).getD k (0, 0)).1)
section
variable {n : Nat} {kd pl nw : Nat → Nat} {vl : Nat → Int64} {x : z_Qu} {tc : Nat} {cols : Nat → Nat} {w : g_St} {C : Nat → Nat}
/-- a column of ORDER BY -/
theorem t_ocl (N : t_nf nw pl x tc cols) (hcl : ∀ t, t < tc → cols t ≤ 3) (hw : ∀ k, k < x.2.1.length → (x.2.1.getD k z_pa0).2.1.length ≤ 3) (h3 : x.2.2.1.2.2.1.length ≤ 3) {t : Nat} (ht : t ∈ t_ot x) : ∃ sl c m, z_slt nw x.2.2.1.2.2.1 t none = some sl ∧ z_tcl nw x.2.1 tc cols x.2.2.1.2.2.1 none t = some c ∧ sl < x.2.2.1.2.2.1.length ∧ z_tmn nw x.2.1 tc x.2.2.1.2.2.1 none (some sl) = some m ∧ r_ml (t_ms nw x tc x.2.2.1.2.2.1) sl = m ∧ M_ok x.2.1.length tc m ∧ c ≤ 4 ∧ (c ≠ 4 → r_W (t_Xs nw x) cols m c) ∧ (c = 4 → ∃ k, m = .inl k ∧ k < x.2.1.length ∧ (t_Xs nw x k).2.1.isSome = true) ∧ z_cc x.2.1 (some m) true (some c) = (if c = 4 then 100 else Int32.ofNat (M_col (t_Xs nw x) m c)) := by
  have hb : ¬ z_tbad true (z_tcl nw x.2.1 tc cols x.2.2.1.2.2.1 none t) = true := fun hb => by
    unfold t_ot at ht
    cases ho : x.2.2.2 with
    | none => rw [ho] at ht; cases ht
    | some y =>
      rw [ho] at ht
      refine N 2 (pl t) (by decide) (by decide) (Or.inl ⟨rfl, Or.inr (Or.inr (Or.inl ⟨true, z_tot x.2.1, none, t, Or.inr ⟨rfl, rfl, rfl, y, ho, ht⟩, ?_, rfl⟩))⟩)
      rw [z_sv_own]
      exact hb
  cases hc : z_tcl nw x.2.1 tc cols x.2.2.1.2.2.1 none t with
  | none => rw [hc] at hb; exact absurd rfl hb
  | some c =>
    by_cases c4 : c = 4
    · -- a trail
      have h := hc
      unfold z_tcl at h
      cases hs : z_slt nw x.2.2.1.2.2.1 t none with
      | none => rw [hs] at h; cases h
      | some sl =>
        rw [hs] at h
        have sl1 : sl < x.2.2.1.2.2.1.length := by
          rcases z_slt_lt hs with g | ⟨g, w, hw⟩
          · exact g
          · cases hw
        cases hm : z_tmn nw x.2.1 tc x.2.2.1.2.2.1 none (some sl) with
        | none => rw [hm] at h; cases h
        | some m =>
          rw [hm] at h
          have hm' : z_mng nw x.2.1 tc (x.2.2.1.2.2.1.getD sl 0) = some m := by
            have h' := hm
            rw [t_tmn_lo (by omega)] at h'
            exact h'
          obtain ⟨t1, t2⟩ := t_mn_ok hm'
          have ml : r_ml (t_ms nw x tc x.2.2.1.2.2.1) sl = m := by rw [t_ml sl1]; exact t1
          cases m with
          | inr t' =>
            exfalso
            have h' : z_ff (fun k => decide (nw (t + 2) = 97 + k)) (cols t') 0 = some c := h
            have := (z_ff_some h').2.1
            have := hcl t' t2
            omega
          | inl k =>
            have hk : k < x.2.1.length := t2
            refine ⟨sl, c, .inl k, rfl, rfl, sl1, hm, ml, t2, by omega, fun z => absurd c4 z, fun _ => ⟨k, rfl, hk, ?_⟩, ?_⟩
            · have h' : z_pcl nw (x.2.1.getD k z_pa0) (t + 2) = some c := h
              have w3 := hw k hk
              unfold z_pcl at h'
              cases hf : z_ff (fun i => decide (nw ((x.2.1.getD k z_pa0).2.1.getD i 0) = nw (t + 2))) (x.2.1.getD k z_pa0).2.1.length 0 with
              | some i =>
                rw [hf] at h'
                have e : i = c := Option.some.inj h'
                have := (z_ff_some hf).2.1
                omega
              | none =>
                rw [hf] at h'
                simp only [] at h'
                by_cases g1 : z_mark nw (x.2.1.getD k z_pa0) (t + 2) = true
                · rw [if_pos g1] at h'
                  have e : 3 = c := Option.some.inj h'
                  omega
                · rw [if_neg g1] at h'
                  by_cases g2 : z_trl nw (x.2.1.getD k z_pa0) (t + 2) = true
                  · unfold z_trl at g2
                    show ((x.2.1.getD k z_pa0).2.2.2.2.1.map _).isSome = true
                    rw [Option.isSome_map]
                    cases hy : (x.2.1.getD k z_pa0).2.2.2.2.1 with
                    | none => rw [hy] at g2; cases g2
                    | some y => rfl
                  · rw [if_neg g2] at h'; cases h'
            · rw [c4]; rfl
    · obtain ⟨sl, m, s1, s2, s3, s4, s5, s6⟩ := t_term hw h3 hc c4
      rcases s4 with ⟨a, b⟩ | ⟨a, w, b1, b2⟩
      · refine ⟨sl, c, m, s1, rfl, a, s2, b, s3, ?_, fun _ => s5, fun z => absurd z c4, ?_⟩
        · cases m with
          | inl k =>
            have s5' : c < (x.2.1.getD k z_pa0).2.1.length ∨ (c = 3 ∧ _) := s5
            have := hw k s3
            omega
          | inr t' =>
            have s5' : c < cols t' := s5
            have := hcl t' s3
            omega
        · rw [if_neg c4, ← s6]
          cases m with
          | inr t' => rfl
          | inl k =>
            have s5' : c < (x.2.1.getD k z_pa0).2.1.length ∨ (c = 3 ∧ _) := s5
            have := hw k s3
            show (if c < 3 then Int32.ofNat c else if c = 3 then Int32.ofNat (x.2.1.getD k z_pa0).2.1.length else if true = true then 100 else -1) = if c < 3 then Int32.ofNat c else if c = 3 then Int32.ofNat (x.2.1.getD k z_pa0).2.1.length else if false = true then 100 else -1
            by_cases g : c < 3
            · rw [if_pos g, if_pos g]
            · rw [if_neg g, if_neg g, if_pos (by omega), if_pos (by omega)]
      · cases b1
theorem t_osl (hcl : ∀ t, t < tc → cols t ≤ 3) (N : t_nf nw pl x tc cols) {tk : Nat} {ck : Nat → Nat} (K : M_ck n kd pl vl w C x tk ck) (A : M_all n kd nw w C x tc cols) (H : z_H n kd) {q : Nat} (W : z_wqu kd q x) (hq : q ≤ n) (lv : Nat → Nat) : M_osl w x.2.1.length tc (t_Xs nw x) cols (z_tot x.2.1) (t_sel nw vl x tc cols lv x.2.2.1).1 (t_sel nw vl x tc cols lv x.2.2.1).2.1 (t_sel nw vl x tc cols lv x.2.2.1).2.2.1 (t_ks nw x tc cols) ∧ g_AI w 159 (z_tot x.2.1) = z_g (!decide (r_gc (t_sel nw vl x tc cols lv x.2.2.1).1 = 0)) ∧ g_I w 2177 1 = Int32.ofNat (z_tot x.2.1 + 1) ∧ r_kok (t_Xs nw x) cols (t_sel nw vl x tc cols lv x.2.2.1).2.1 (t_ks nw x tc cols) (t_pp nw x tc cols) ∧ (r_gc (t_sel nw vl x tc cols lv x.2.2.1).1 ≠ 0 → t_ks nw x tc cols = []) ∧ ∀ k, k < (t_ks nw x tc cols).length → ((t_ks nw x tc cols).getD k (0, 0)).2 = 4 → t_pp nw x tc cols k < x.2.1.length ∧ (t_Xs nw x (t_pp nw x tc cols k)).2.1.isSome = true := by
  have Q := K.2.2.1
  have pas : M_pas pl w C x.2.1 := Q.2.2.2.2.1
  have hw : ∀ k, k < x.2.1.length → (x.2.1.getD k z_pa0).2.1.length ≤ 3 := fun k hk => (pas k hk).2.2.2.2.2.2.2.2.2.2.2.1
  have se : M_se pl w C (z_tot x.2.1) 4 x.2.2.1 := Q.2.2.2.2.2.2.1
  have h3 : x.2.2.1.2.2.1.length ≤ 3 := se.2.2.2.2.2.2.2.2.2.2.2.1
  have hs : z_tot x.2.1 < (z_sels x).length := by rw [z_sv_len]; exact Nat.lt_succ_self _
  obtain ⟨s1, s2⟩ := t_msl hw N K A H W hq lv (s := z_tot x.2.1) hs
  rw [z_sv_own] at s1 s2
  have oc := fun {t : Nat} (ht : t ∈ t_ot x) => t_ocl N hcl hw h3 ht
  have lk : (t_ks nw x tc cols).length = (t_ot x).length := List.length_map _
  have l2 : (t_ms nw x tc x.2.2.1.2.2.1).length = x.2.2.1.2.2.1.length := List.length_map _
  have gk : ∀ k, k < (t_ot x).length → (t_ks nw x tc cols).getD k (0, 0) = t_k1 nw x tc cols ((t_ot x).getD k 0) := fun k hk => t_gd _ hk 0 (0, 0)
  have its1 : ((t_sel nw vl x tc cols lv x.2.2.1).1).map (·.1) = x.2.2.1.2.1.map (·.1) := by
    show (List.map _ _).map _ = _
    rw [List.map_map]
    rfl
  have ord : M_ord w (t_Xs nw x) (t_ms nw x tc x.2.2.1.2.2.1) (t_ks nw x tc cols) := by
    have ho : M_or w x.2.2.2 := Q.2.2.2.2.2.2.2.2.2.1
    have hr : M_ror nw w x tc cols := A.2.2
    refine ⟨?_, ?_, fun k hk => ?_⟩
    · rw [lk]
      unfold M_or at ho
      unfold t_ot
      cases hx : x.2.2.2 with
      | none => rw [hx] at ho; exact ho
      | some y => rw [hx] at ho; exact ho.2.1
    · rw [lk]
      unfold M_or at ho
      unfold t_ot
      cases hx : x.2.2.2 with
      | none => exact Nat.zero_le _
      | some y => rw [hx] at ho; exact ho.2.2.1
    · rw [lk] at hk
      have mem := z_getD_m (d := 0) hk
      obtain ⟨sl, c, m, g1, g2, g3, g4, g5, g6, g7, g8, g9, g10⟩ := oc mem
      have rk : g_AI w 3796 k = z_oc (z_slt nw x.2.2.1.2.2.1 ((t_ot x).getD k 0) none) ∧ g_AI w 3860 k = z_cc x.2.1 (z_tmn nw x.2.1 tc x.2.2.1.2.2.1 none (z_slt nw x.2.2.1.2.2.1 ((t_ot x).getD k 0) none)) true (z_tcl nw x.2.1 tc cols x.2.2.1.2.2.1 none ((t_ot x).getD k 0)) := by
        unfold t_ot at hk ⊢
        cases hx : x.2.2.2 with
        | none => rw [hx] at hk; cases hk
        | some y => rw [hx] at hk; exact hr y hx k hk
      rw [g1, g2, g4, g10] at rk
      rw [gk k hk]
      have e1 : (t_k1 nw x tc cols ((t_ot x).getD k 0)).1 = sl := by unfold t_k1; rw [g1]; rfl
      have e2 : (t_k1 nw x tc cols ((t_ot x).getD k 0)).2 = c := by unfold t_k1; rw [g2]; rfl
      rw [e1, e2, g5]
      refine ⟨rk.1, by rw [l2]; exact g3, rk.2, fun c4 => ?_⟩
      have w5 := g8 c4
      cases m with
      | inl k' =>
        have w3 := hw k' g6
        have w5' : c < (x.2.1.getD k' z_pa0).2.1.length ∨ (c = 3 ∧ _) := w5
        show (if c = 3 then (x.2.1.getD k' z_pa0).2.1.length else c) ≤ 3
        split <;> omega
      | inr t' =>
        have w5' : c < cols t' := w5
        have := hcl t' g6
        show c ≤ 3
        omega
  refine ⟨⟨s1, s2, se.2.1, ord⟩, ?_, ?_, fun k hk => ?_, fun hg => ?_, fun k hk c4 => ?_⟩
  · rw [se.2.2.2.2.2.1]
    exact z_fol_g its1
  · rw [Q.1 2177 (by decide), Q.2.2.2.2.2.2.2.1]
  · rw [lk] at hk
    obtain ⟨sl, c, m, g1, g2, g3, g4, g5, g6, g7, g8, g9, g10⟩ := oc (z_getD_m (d := 0) hk)
    have e1 : (t_k1 nw x tc cols ((t_ot x).getD k 0)).1 = sl := by unfold t_k1; rw [g1]; rfl
    have e2 : (t_k1 nw x tc cols ((t_ot x).getD k 0)).2 = c := by unfold t_k1; rw [g2]; rfl
    show ((t_ks nw x tc cols).getD k (0, 0)).1 < (t_ms nw x tc x.2.2.1.2.2.1).length ∧ (((t_ks nw x tc cols).getD k (0, 0)).2 ≠ 4 → r_W (t_Xs nw x) cols (r_ml (t_ms nw x tc x.2.2.1.2.2.1) ((t_ks nw x tc cols).getD k (0, 0)).1) ((t_ks nw x tc cols).getD k (0, 0)).2) ∧ (((t_ks nw x tc cols).getD k (0, 0)).2 = 4 → r_ml (t_ms nw x tc x.2.2.1.2.2.1) ((t_ks nw x tc cols).getD k (0, 0)).1 = .inl (t_prt (r_ml (t_ms nw x tc x.2.2.1.2.2.1) ((t_ks nw x tc cols).getD k (0, 0)).1)))
    rw [gk k hk, e1, e2, g5, l2]
    refine ⟨g3, g8, fun c4 => ?_⟩
    obtain ⟨k', m1, -⟩ := g9 c4
    rw [m1]
    rfl
  · unfold t_ks t_ot
    cases hx : x.2.2.2 with
    | none => rfl
    | some y =>
      exfalso
      refine N 2 (pl y.1) (by decide) (by decide) (Or.inl ⟨rfl, Or.inr (Or.inr (Or.inr ⟨y, hx, ?_, rfl⟩))⟩)
      have key : ∀ (l : List z_It) (its : List r_It), its.map (·.1) = l.map (·.1) → z_gc l = r_gc its := by
        intro l
        induction l with
        | nil =>
          intro its h
          cases its with
          | nil => rfl
          | cons => cases h
        | cons a l ih =>
          intro its h
          cases its with
          | nil => cases h
          | cons i its =>
            rw [List.map_cons, List.map_cons] at h
            injection h with h1 h2
            have h3 := ih its h2
            unfold z_gc r_gc at h3 ⊢
            rw [List.map_cons, List.sum_cons, List.filter_cons, h1, h3]
            by_cases g : a.1 = 0
            · rw [if_pos g, if_neg (by rw [g]; decide), Nat.zero_add]
            · rw [if_neg g, if_pos (decide_eq_true g), List.length_cons, Nat.add_comm]
      rw [key _ _ its1]
      omega
  · rw [lk] at hk
    obtain ⟨sl, c, m, g1, g2, g3, g4, g5, g6, g7, g8, g9, g10⟩ := oc (z_getD_m (d := 0) hk)
    have e1 : (t_k1 nw x tc cols ((t_ot x).getD k 0)).1 = sl := by unfold t_k1; rw [g1]; rfl
    have e2 : (t_k1 nw x tc cols ((t_ot x).getD k 0)).2 = c := by unfold t_k1; rw [g2]; rfl
    rw [gk k hk, e2] at c4
    obtain ⟨k', m1, m2, m3⟩ := g9 c4
    have ep : t_pp nw x tc cols k = k' := by
      unfold t_pp
      rw [gk k hk, e1, g5, m1]
      rfl
    rw [ep]
    exact ⟨m2, m3⟩
end
