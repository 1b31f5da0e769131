/-! RUNNING (reference): a round -/
theorem r_seq_ap (one : Nat × Nat → r_Rs → r_Rs ⊕ Nat) : ∀ (l m : List (Nat × Nat)) (s : r_Rs), r_seq one (l ++ m) s = match r_seq one l s with | .inl s' => r_seq one m s' | .inr c => .inr c := by
  intro l
  induction l with
  | nil => intro m s; rfl
  | cons j l ih =>
    intro m s
    rw [List.cons_append, r_seq, r_seq]
    cases one j s with
    | inl s' => exact ih m s'
    | inr c => rfl
def M_keep (ual rec : Nat → Bool) (names : Nat → Nat → Bool) (bg : Bool) : Nat → Nat → Bool := fun q k => !(rec q && ual q) || (names q k != bg)
section
variable {w0 : g_St} {np nt : Nat} {Xs : Nat → r_Pt} {tw cp ns fs : Nat → Nat} {ual rec : Nat → Bool} {names : Nat → Nat → Bool} {sl : Nat → Nat → r_Sel} {tbl : Nat → List (Nat → Int64)} {al c : Nat} {ua : Nat → Bool} {st bf : Nat → Nat} {low high : Nat} {Iv : M_Pl → Prop} {bg : Bool}
theorem m_r48 {mask : Nat} (F0 : m_Fix w0) (H : M_stc w0 np nt Xs tw cp ns fs ual rec names sl) (hal : g_I w0 5441 1 = Int32.ofNat al) (al1 : 1 ≤ al) (al48 : al ≤ 48) (c3 : c ≤ 3) (hm16 : mask < 16) (hin : ∀ q, q < np → mask.testBit q = decide (c = cp q)) (lh : low ≤ high) (hW : ∀ q k P, q < np → cp q = c → k < ns q → Iv P → r_wpk np Xs cp tw ua st bf low high (sl q k) q P) (hI : ∀ q k P (l : List r_Row), q < np → cp q = c → k < ns q → Iv P → r_one Xs cp ua tbl al st bf (sl q k) q (M_pr P, P.length) = .inl (M_pr (P ++ l.map fun r => (q, r)), (P ++ l.map fun r => (q, r)).length) → Iv (P ++ l.map fun r => (q, r))) (hE : ∀ q k s e, r_one Xs cp ua tbl al st bf (sl q k) q s = .inr e → e < 100) : ∀ (d q f : Nat) (w : g_St) (P : M_Pl), q + d = np → d < f → M_rst w0 np nt Xs tw tbl al w P → Iv P → ∃ w', f_M_round_48 f (some 1) (Int32.ofNat c) (Int32.ofNat low) (Int32.ofNat high) (z_g bg) (Int32.ofNat mask) (Int32.ofNat q) w = some ((), w') ∧ M_rrs w0 np nt Xs tw tbl al Iv w' P (r_seq (fun j => r_one Xs cp ua tbl al st bf (sl j.1 j.2) j.1) ((List.range' q d).flatMap (r_jq cp ns (M_keep ual rec names bg) c false)) (M_pr P, P.length)) := by
  have np4 := H.2.1
  intro d
  induction d with
  | zero =>
    intro q f w P e1 e2 hr hi
    obtain ⟨f, rfl⟩ : ∃ m, f = m + 1 := ⟨f - 1, by omega⟩
    have H' := H.mv hr.1
    rw [f_M_round_48, x_gI, H'.1, if_pos (by rw [x_le (by omega) (by omega)]; omega)]
    exact ⟨w, rfl, [], by rw [List.append_nil], by rw [List.append_nil]; exact hr, by rw [List.append_nil]; exact hi⟩
  | succ d ih =>
    intro q f w P e1 e2 hr hi
    obtain ⟨f, rfl⟩ : ∃ m, f = m + 1 := ⟨f - 1, by omega⟩
    have hq : q < np := by omega
    have H' := H.mv hr.1
    have F := hr.1.fx F0
    obtain ⟨⟨a1, a2, a3, a4, a5, a6, a7⟩, b, ⟨r, r1, r2, r3⟩, -⟩ := H'.2.2 q hq
    have f1 : g_R w 4801 1 = some 4052 ∧ g_ln w 4052 = 4 := F (4801, 4052, 4) (by decide)
    have f2 : g_R w 1921 1 = some 95 ∧ g_ln w 95 = 4 := F (1921, 95, 4) (by decide)
    rw [f_M_round_48, x_gI, H'.1, if_neg (by rw [x_le (by omega) (by omega)]; omega), x_gR, f1.1, x_aI (by omega) (by omega), a2, List.range'_succ, List.flatMap_cons, r_seq_ap]
    by_cases hc : cp q = c
    · rw [if_pos (by rw [hc]), x_nn, m_isr F (by omega) r1 r2 r3, x_c]
      have ej : r_jq cp ns (M_keep ual rec names bg) c false q = r_jk (fun q' k => !(rec q && ual q) || (names q' k != bg)) false q (List.range' 0 (ns q)) := by
        unfold r_jq
        rw [if_pos hc, List.range_eq_range']
        rfl
      have go : ∃ w', f_M_round_100 (f_M_round_48 f) 200000 (some 1) (Int32.ofNat c) (Int32.ofNat low) (Int32.ofNat high) (z_g bg) (Int32.ofNat mask) (Int32.ofNat q) (z_g (rec q && ual q)) (Int32.ofNat 0) w = some ((), w') ∧ M_rrs w0 np nt Xs tw tbl al Iv w' P (match r_seq (fun j => r_one Xs cp ua tbl al st bf (sl j.1 j.2) j.1) (r_jq cp ns (M_keep ual rec names bg) c false q) (M_pr P, P.length) with | .inl s' => r_seq (fun j => r_one Xs cp ua tbl al st bf (sl j.1 j.2) j.1) ((List.range' (q + 1) d).flatMap (r_jq cp ns (M_keep ual rec names bg) c false)) s' | .inr c => .inr c) := by
        obtain ⟨w1, m1, m2⟩ := m_r100 (bg := bg) (spl := rec q && ual q) (Iv := Iv) F0 H hal al1 al48 hm16 hin lh hW hI hE hq hc f (ns q) 0 200000 w P (by omega) (by omega) hr hi
        rw [ej, m1]
        generalize r_seq (fun j => r_one Xs cp ua tbl al st bf (sl j.1 j.2) j.1) (r_jk (fun q' k => !(rec q && ual q) || (names q' k != bg)) false q (List.range' 0 (ns q))) (M_pr P, P.length) = R at m2 ⊢
        cases R with
        | inr e =>
          obtain ⟨n1, n2, n3⟩ := m2
          refine ⟨w1, m_rskip F0 H n1 ?_ d (q + 1) f (by omega) (by omega), n1, n2, n3⟩
          rw [n2, show (0 : Int32) = Int32.ofNat 0 from rfl]
          intro z
          rw [x_eq (by omega) (by omega)] at z
          omega
        | inl s' =>
          obtain ⟨D, D1, D2, D3⟩ := m2
          obtain ⟨w', n1, n2⟩ := ih (q + 1) f w1 (P ++ D) (by omega) (by omega) D2 D3
          refine ⟨w', n1, ?_⟩
          show M_rrs w0 np nt Xs tw tbl al Iv w' P (r_seq (fun j => r_one Xs cp ua tbl al st bf (sl j.1 j.2) j.1) ((List.range' (q + 1) d).flatMap (r_jq cp ns (M_keep ual rec names bg) c false)) s')
          rw [D1]
          generalize r_seq (fun j => r_one Xs cp ua tbl al st bf (sl j.1 j.2) j.1) ((List.range' (q + 1) d).flatMap (r_jq cp ns (M_keep ual rec names bg) c false)) (M_pr (P ++ D), (P ++ D).length) = R at n2 ⊢
          cases R with
          | inr e => exact n2
          | inl z =>
            obtain ⟨E, E1, E2, E3⟩ := n2
            exact ⟨D ++ E, by rw [← List.append_assoc]; exact E1, by rw [← List.append_assoc]; exact E2, by rw [← List.append_assoc]; exact E3⟩
      cases hrq : rec q with
      | false =>
        rw [if_pos (show z_g false = 0 from rfl)]
        rw [hrq, Bool.false_and] at go
        exact go
      | true =>
        rw [if_neg (show ¬ z_g true = 0 from by decide), x_gR, f2.1, x_aI (by omega) (by omega), b]
        rw [hrq, Bool.true_and] at go
        cases huq : ual q with
        | false =>
          rw [if_pos (show z_g false = 0 from rfl)]
          rw [huq] at go
          exact go
        | true =>
          rw [if_neg (show ¬ z_g true = 0 from by decide)]
          rw [huq] at go
          exact go
    · rw [if_neg (by rw [x_eq (by omega) (by omega)]; exact hc), x_p1]
      have ej : r_jq cp ns (M_keep ual rec names bg) c false q = [] := by
        unfold r_jq
        rw [if_neg hc]
      rw [ej]
      exact ih (q + 1) f w P (by omega) (by omega) hr hi
theorem m_r6 (F0 : m_Fix w0) (H : M_stc w0 np nt Xs tw cp ns fs ual rec names sl) (c3 : c ≤ 3) {x2 x3 x4 : Int32} {w : g_St} (K : M_K w0 w) : ∀ (d q f a : Nat), q + d = np → d < f → a < 16 → (∀ j, a.testBit j = (decide (j < q) && decide (c = cp j))) → ∃ mask, f_M_round_6 f (some 1) (Int32.ofNat c) x2 x3 x4 (Int32.ofNat a) (Int32.ofNat q) w = f_M_round_48 200000 (some 1) (Int32.ofNat c) x2 x3 x4 (Int32.ofNat mask) 0 w ∧ mask < 16 ∧ ∀ j, mask.testBit j = (decide (j < np) && decide (c = cp j)) := by
  have H' := H.mv K
  have F := K.fx F0
  have np4 := H'.2.1
  intro d
  induction d with
  | zero =>
    intro q f a e1 e2 ha hb
    obtain ⟨f, rfl⟩ : ∃ m, f = m + 1 := ⟨f - 1, by omega⟩
    rw [f_M_round_6, x_gI, H'.1, if_pos (by rw [x_le (by omega) (by omega)]; omega)]
    exact ⟨a, rfl, ha, fun j => by rw [hb j, show q = np by omega]⟩
  | succ d ih =>
    intro q f a e1 e2 ha hb
    obtain ⟨f, rfl⟩ : ∃ m, f = m + 1 := ⟨f - 1, by omega⟩
    obtain ⟨⟨a1, a2, a3, -⟩, -⟩ := H'.2.2 q (by omega)
    have f1 : g_R w 4801 1 = some 4052 ∧ g_ln w 4052 = 4 := F (4801, 4052, 4) (by decide)
    rw [f_M_round_6, x_gI, H'.1, if_neg (by rw [x_le (by omega) (by omega)]; omega), x_gR, f1.1, x_aI (by omega) (by omega), a2, x_p1]
    by_cases hc : cp q = c
    · have eo : (Int32.ofNat a ||| ((1 : Int32) <<< (Int32.ofNat q &&& 31))) = Int32.ofNat (a ||| 1 <<< q) := z_or1 ⟨a, ha⟩ ⟨q, by omega⟩
      rw [if_pos (by rw [hc]), eo]
      refine ih (q + 1) f (a ||| 1 <<< q) (by omega) (by omega) (z_orlt ⟨a, ha⟩ ⟨q, by omega⟩) (fun j => ?_)
      rw [z_ortb, hb j]
      by_cases g : j = q
      · rw [g, decide_eq_true (rfl : q = q), Bool.or_true, decide_eq_true (show q < q + 1 by omega), decide_eq_true hc.symm]
        rfl
      · rw [decide_eq_false (fun z => g (Eq.symm z)), Bool.or_false]
        by_cases g2 : j < q
        · rw [decide_eq_true g2, decide_eq_true (show j < q + 1 by omega)]
        · rw [decide_eq_false g2, decide_eq_false (show ¬ j < q + 1 by omega)]
    · rw [if_neg (by rw [x_eq (by omega) (by omega)]; exact hc), z_or0]
      refine ih (q + 1) f a (by omega) (by omega) ha (fun j => ?_)
      rw [hb j]
      by_cases g : j = q
      · rw [g, decide_eq_false (fun z => hc (Eq.symm z)), Bool.and_false, Bool.and_false]
      · by_cases g2 : j < q
        · rw [decide_eq_true g2, decide_eq_true (show j < q + 1 by omega)]
        · rw [decide_eq_false g2, decide_eq_false (show ¬ j < q + 1 by omega)]
theorem m_round {w : g_St} {P : M_Pl} (F0 : m_Fix w0) (H : M_stc w0 np nt Xs tw cp ns fs ual rec names sl) (hal : g_I w0 5441 1 = Int32.ofNat al) (al1 : 1 ≤ al) (al48 : al ≤ 48) (c3 : c ≤ 3) (lh : low ≤ high) (hW : ∀ q k P, q < np → cp q = c → k < ns q → Iv P → r_wpk np Xs cp tw ua st bf low high (sl q k) q P) (hI : ∀ q k P (l : List r_Row), q < np → cp q = c → k < ns q → Iv P → r_one Xs cp ua tbl al st bf (sl q k) q (M_pr P, P.length) = .inl (M_pr (P ++ l.map fun r => (q, r)), (P ++ l.map fun r => (q, r)).length) → Iv (P ++ l.map fun r => (q, r))) (hE : ∀ q k s e, r_one Xs cp ua tbl al st bf (sl q k) q s = .inr e → e < 100) (hr : M_rst w0 np nt Xs tw tbl al w P) (hi : Iv P) : ∃ w', f_M_round (some 1) (Int32.ofNat c) (Int32.ofNat low) (Int32.ofNat high) (z_g bg) w = some ((), w') ∧ M_rrs w0 np nt Xs tw tbl al Iv w' P (r_seq (fun j => r_one Xs cp ua tbl al st bf (sl j.1 j.2) j.1) (r_jobs cp ns (M_keep ual rec names bg) c false (List.range np)) (M_pr P, P.length)) := by
  have np4 := H.2.1
  obtain ⟨mask, m1, m2, m3⟩ := m_r6 (x2 := Int32.ofNat low) (x3 := Int32.ofNat high) (x4 := z_g bg) F0 H c3 hr.1 np 0 200000 0 (by omega) (by omega) (by omega) (fun j => by rw [Nat.zero_testBit]; exact (by rw [decide_eq_false (Nat.not_lt_zero j), Bool.false_and]))
  obtain ⟨w', n1, n2⟩ := m_r48 (bg := bg) (mask := mask) F0 H hal al1 al48 c3 m2 (fun q hq => by rw [m3 q, decide_eq_true hq, Bool.true_and]) lh hW hI hE np 0 200000 w P (by omega) (by omega) hr hi
  refine ⟨w', ?_, ?_⟩
  · unfold f_M_round
    rw [show (0 : Int32) = Int32.ofNat 0 from rfl, m1]
    exact n1
  · unfold r_jobs
    rw [List.range_eq_range']
    exact n2
end
