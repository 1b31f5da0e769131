/-! THE QUERY AS THE RUN HAS IT: every component has a part -/
theorem z_ord_ex {m : Nat} {r : Nat → Nat} (tr : z_cb m m r) (bd : ∀ i j, i < m → z_Pb r i j → j < m) : ∀ (f come num : Nat) (cp : Nat → Nat), (∀ i j, i < m → come.testBit i = true → (z_tog m r i).testBit j = true → come.testBit j = true) → (∀ i, i < num → ∃ q, q < m ∧ come.testBit q = true ∧ cp q = i) → ∀ i, i < (z_ord m r f come num cp).2 → ∃ q, q < m ∧ (z_ord m r f come num cp).1 q = i := by
  have sy : ∀ i j, i < m → (z_tog m r i).testBit j = true → (z_tog m r j).testBit i = true := fun i j hi h => by
    rcases z_tog_bit.mp h with e | ⟨e1, e2, e3⟩
    · rw [e]; exact z_tog_bit.mpr (Or.inl rfl)
    · exact z_tog_bit.mpr (Or.inr ⟨hi, e3, e2⟩)
  have lt : ∀ i j, i < m → (z_tog m r i).testBit j = true → j < m := fun i j hi h => by
    rcases z_tog_bit.mp h with e | ⟨e1, -⟩
    · omega
    · exact e1
  have trn : ∀ i j k, i < m → (z_tog m r i).testBit j = true → (z_tog m r j).testBit k = true → (z_tog m r i).testBit k = true := fun i j k hi h g => by
    have hj := lt i j hi h
    rcases z_tog_bit.mp h with e | ⟨e1, e2, e3⟩
    · rw [← e]; exact g
    · rcases z_tog_bit.mp g with e | ⟨f1, f2, f3⟩
      · rw [e]; exact h
      · exact z_tog_bit.mpr (Or.inr ⟨f1, tr j i k e1 hi e2 f2, tr j k i e1 f1 f3 e3⟩)
  intro f
  induction f with
  | zero =>
    intro come num cp hcl h i hi
    obtain ⟨q, q1, q2, q3⟩ := h i hi
    exact ⟨q, q1, q3⟩
  | succ f ih =>
    intro come num cp hcl h
    rw [z_ord]
    cases hz : z_nxt m r come with
    | none =>
      intro i hi
      obtain ⟨q, q1, q2, q3⟩ := h i hi
      exact ⟨q, q1, q3⟩
    | some p =>
      have pz : z_ff (z_rdy m r come) m 0 = some p := hz
      obtain ⟨c1, c2, c3, c4⟩ := z_ff_some pz
      have pm : p < m := by omega
      have p3 : come.testBit p = false := by
        unfold z_rdy at c3
        cases hb : come.testBit p with
        | true => rw [hb] at c3; cases c3
        | false => rfl
      have pt : (z_tog m r p).testBit p = true := z_tog_bit.mpr (Or.inl rfl)
      refine ih (come ||| z_tog m r p) (num + 1) (fun k => if (z_tog m r p).testBit k = true then num else cp k) (fun i j hi h1 h2 => ?_) (fun i hi => ?_)
      · rw [Nat.testBit_or, Bool.or_eq_true] at h1 ⊢
        rcases h1 with h1 | h1
        · exact Or.inl (hcl i j hi h1 h2)
        · exact Or.inr (trn p i j pm h1 h2)
      · by_cases e : i = num
        · exact ⟨p, pm, by rw [Nat.testBit_or, pt, Bool.or_true], by show (if (z_tog m r p).testBit p = true then num else cp p) = i; rw [if_pos pt]; exact e.symm⟩
        · obtain ⟨q, q1, q2, q3⟩ := h i (by omega)
          refine ⟨q, q1, by rw [Nat.testBit_or, q2, Bool.true_or], ?_⟩
          show (if (z_tog m r p).testBit q = true then num else cp q) = i
          rw [if_neg (fun g => by
            have := hcl q p q1 q2 (sy p q pm g)
            rw [p3] at this
            cases this)]
          exact q3
theorem t_hex {nw : Nat → Nat} {x : z_Qu} {tc : Nat} (h4 : x.2.1.length ≤ 4) : ∀ i, i < (z_cmp nw x tc).2 → ∃ q, q < x.2.1.length ∧ t_cp nw x tc q = i := z_ord_ex (z_c4_tr h4 (z_edg nw x tc)) (fun i j hi h => z_rch_bd (nw := nw) (x := x) (tc := tc) hi h) x.2.1.length 0 0 (fun _ => 0) (fun i j _ h => by rw [Nat.zero_testBit] at h; cases h) (fun i hi => by omega)
/-- the recursive parts of a component -/
theorem t_rcc {nw : Nat → Nat} {x : z_Qu} {tc : Nat} (h4 : x.2.1.length ≤ 4) {q i : Nat} (hq : q < x.2.1.length) (hc : t_cp nw x tc q = i) : r_rcc x.2.1.length (t_cp nw x tc) (t_rec nw x tc) i = t_rec nw x tc q := by
  unfold r_rcc
  cases hr : t_rec nw x tc q with
  | true =>
    rw [List.any_eq_true]
    exact ⟨q, List.mem_range.mpr hq, by rw [decide_eq_true hc, hr]; rfl⟩
  | false =>
    rw [List.any_eq_false]
    intro p hp h
    rw [Bool.and_eq_true] at h
    have := t_rec_all h4 (List.mem_range.mp hp) hq (by rw [hc]; exact of_decide_eq_true h.1) h.2
    rw [hr] at this
    cases this
/-! THE QUERY AS THE RUN HAS IT: all of the engine -/
def Y_or (w : g_St) (Q : Nat) (so : Nat → Option Nat) (ks : List (Nat × Nat)) : Prop := ∃ O, g_I w 326 Q = Int32.ofNat ks.length ∧ ks.length ≤ 2 ∧ g_R w 262 Q = some O ∧ O % 64 = 26 ∧ g_ln w O = 2 ∧ ∀ k, k < ks.length → ∃ i, g_AR w O k = some (i * 64 + 11) ∧ g_I w 587 (i * 64 + 11) = Int32.ofNat (ks.getD k (0, 0)).2 ∧ (ks.getD k (0, 0)).2 ≤ 4 ∧ (∃ r, so (ks.getD k (0, 0)).1 = some r ∧ g_R w 523 (i * 64 + 11) = some r) ∧ ((ks.getD k (0, 0)).2 ≠ 4 → X_ex w so i [(false, .inr (ks.getD k (0, 0)))])
def Y_pa (w : g_St) (nw : Nat → Nat) (x : z_Qu) (tc : Nat) (P q : Nat) : Prop := X_pt w P (t_Xs nw x q) ∧ g_I w 903 P = Int32.ofNat (t_cp nw x tc q) ∧ t_cp nw x tc q ≤ 4 ∧ g_I w 583 P = z_g (t_ua x q) ∧ g_I w 967 P = z_g (t_rec nw x tc q)
/-- the query that the engine has -/
def Y_q (w : g_St) (Q : Nat) (b : Nat → Nat) (nw : Nat → Nat) (vl : Nat → Int64) (x : z_Qu) (tc : Nat) (cols : Nat → Nat) (lv : Nat → Nat → Nat) (so : Nat → Nat → Option Nat) : Prop := (Q % 64 = 6 ∧ g_I w 70 Q = Int32.ofNat x.2.1.length ∧ x.2.1.length ≤ 4 ∧ g_I w 454 Q = Int32.ofNat (z_cmp nw x tc).2) ∧ (∃ PA, g_R w 6 Q = some PA ∧ PA % 64 = 24 ∧ g_ln w PA = 4 ∧ ∀ q, q < x.2.1.length → g_AR w PA q = some ((b 7 + q) * 64 + 7) ∧ Y_pa w nw x tc ((b 7 + q) * 64 + 7) q) ∧ X_sls w x.2.1.length tc (fun q => (b 7 + q) * 64 + 7) (t_Xs nw x) cols (t_ns x) (t_nm nw x tc) (t_sl nw vl x tc cols lv) (fun q k => so (t_fs x q + k)) (fun q k => (b 8 + (t_fs x q + k)) * 64 + 8) ∧ (∃ now, X_sel w x.2.1.length tc (t_Xs nw x) cols (so (z_tot x.2.1)) ((b 8 + z_tot x.2.1) * 64 + 8) now (t_sel nw vl x tc cols (lv (z_tot x.2.1)) x.2.2.1).1 (t_sel nw vl x tc cols (lv (z_tot x.2.1)) x.2.2.1).2.1 (t_sel nw vl x tc cols (lv (z_tot x.2.1)) x.2.2.1).2.2.1 (t_sel nw vl x tc cols (lv (z_tot x.2.1)) x.2.2.1).2.2.2.1 (t_sel nw vl x tc cols (lv (z_tot x.2.1)) x.2.2.1).2.2.2.2) ∧ g_R w 198 Q = some ((b 8 + z_tot x.2.1) * 64 + 8) ∧ Y_or w Q (so (z_tot x.2.1)) (t_ks nw x tc cols)
section
variable {v w : g_St} {Q : Nat} {b : Nat → Nat} {nw : Nat → Nat} {vl : Nat → Int64} {x : z_Qu} {tc : Nat} {cols : Nat → Nat} {lv : Nat → Nat → Nat} {so : Nat → Nat → Option Nat}
theorem Y_or.ag {so : Nat → Option Nat} {ks : List (Nat × Nat)} (h : Y_or v Q so ks) (hQ : Q % 64 = 6) (f : E_ag v w) : Y_or w Q so ks := by
  obtain ⟨O, h3, h5, h6, h7, h8, h9⟩ := h
  have ar := f.2 O (by omega) (by omega)
  refine ⟨O, by rw [f.I (by omega) (by omega) (by decide)]; exact h3, h5, by rw [f.R (by omega) (by omega) (by decide)]; exact h6, h7, by rw [ar.2]; exact h8, fun k hk => ?_⟩
  obtain ⟨i, a1, a2, a3, ⟨r, a4, a5⟩, a6⟩ := h9 k hk
  exact ⟨i, by rw [ar.1]; exact a1, by rw [f.I (by omega) (by omega) (by decide)]; exact a2, a3, ⟨r, a4, by rw [f.R (by omega) (by omega) (by decide)]; exact a5⟩, fun e => (a6 e).ag f⟩
theorem Y_q.ag (h : Y_q v Q b nw vl x tc cols lv so) (f : E_ag v w) : Y_q w Q b nw vl x tc cols lv so := by
  obtain ⟨⟨a1, a2, a3, a4⟩, ⟨PA, b1, b2, b3, b4⟩, c1, ⟨now, c2⟩, c3, c4⟩ := h
  have ar := f.2 PA (by omega) (by omega)
  refine ⟨⟨a1, by rw [f.I (by omega) (by omega) (by decide)]; exact a2, a3, by rw [f.I (by omega) (by omega) (by decide)]; exact a4⟩, ⟨PA, by rw [f.R (by omega) (by omega) (by decide)]; exact b1, b2, by rw [ar.2]; exact b3, fun q hq => ?_⟩, c1.ag f, ⟨now, c2.ag f⟩, by rw [f.R (by omega) (by omega) (by decide)]; exact c3, c4.ag a1 f⟩
  obtain ⟨d1, d2, d3, d4, d5, d6⟩ := b4 q hq
  exact ⟨by rw [ar.1]; exact d1, d2.ag f, by rw [f.I (by omega) (by omega) (by decide)]; exact d3, d4, by rw [f.I (by omega) (by omega) (by decide)]; exact d5, by rw [f.I (by omega) (by omega) (by decide)]; exact d6⟩
end
