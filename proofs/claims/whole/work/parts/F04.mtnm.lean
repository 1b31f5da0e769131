/-! RUNNING (reference): how often a selection names a part -/
def r_isn (q : Nat) : r_Cd → Bool
  | .inl _ => false
  | .inr z => decide (z.1 = .inl q)
def r_nmd (ms : List (Nat ⊕ Nat)) (cds : List r_Cd) (q : Nat) : Bool := ((List.range ms.length).any fun m => decide (r_ml ms m = .inl q)) || (List.range cds.length).any fun i => r_isn q (cds.getD i r_cd0)
def r_ct1 (P : Nat → Bool) : Nat → Nat → Nat
  | 0, _ => 0
  | d + 1, i => (if P i = true then 1 else 0) + r_ct1 P d (i + 1)
theorem r_ct1_le (P : Nat → Bool) : ∀ d i, r_ct1 P d i ≤ d := by
  intro d
  induction d with
  | zero => intro i; exact Nat.le_refl _
  | succ d ih =>
    intro i
    have := ih (i + 1)
    rw [r_ct1]
    split <;> omega
theorem r_ct1_pos (P : Nat → Bool) : ∀ d i, ((List.range' i d).any P = true ↔ 0 < r_ct1 P d i) := by
  intro d
  induction d with
  | zero => intro i; exact ⟨fun z => (by cases z), fun z => by cases z⟩
  | succ d ih =>
    intro i
    rw [List.range'_succ, List.any_cons, r_ct1]
    cases hp : P i with
    | true => rw [if_pos rfl, Bool.true_or]; exact ⟨fun _ => by omega, fun _ => rfl⟩
    | false =>
      rw [if_neg (by decide), Bool.false_or, Nat.zero_add]
      exact ih (i + 1)
def r_cnt (ms : List (Nat ⊕ Nat)) (cds : List r_Cd) (q : Nat) : Nat := r_ct1 (fun m => decide (r_ml ms m = .inl q)) ms.length 0 + r_ct1 (fun i => r_isn q (cds.getD i r_cd0)) cds.length 0
theorem r_cnt_pos {ms : List (Nat ⊕ Nat)} {cds : List r_Cd} {q : Nat} : r_nmd ms cds q = true ↔ 0 < r_cnt ms cds q := by
  unfold r_nmd r_cnt
  rw [Bool.or_eq_true, List.range_eq_range', List.range_eq_range', r_ct1_pos, r_ct1_pos]
  omega
section
variable {w : g_St} {np nt s q : Nat} {Xs : Nat → r_Pt} {tw : Nat → Nat} {its : List r_It} {ms : List (Nat ⊕ Nat)} {cds : List r_Cd}
theorem m_tnm (F : m_Fix w) (n5 : nt ≤ 5) (np4 : np ≤ 4) (hq : q < 4) (L : M_sl w np nt Xs tw s its ms cds) (So : M_sov w np nt s ms) : f_M_timesNamed (some 1) (Int32.ofNat s) (Int32.ofNat q) w = some (Int32.ofNat (r_cnt ms cds q), w) := by
  have f1 : g_R w 2561 1 = some 2324 ∧ g_ln w 2324 = 17 := F (2561, 2324, 17) (by decide)
  have f2 : g_R w 3777 1 = some 3220 ∧ g_ln w 3220 = 100 := F (3777, 3220, 100) (by decide)
  have f3 : g_R w 2497 1 = some 2260 ∧ g_ln w 2260 = 17 := F (2497, 2260, 17) (by decide)
  have f4 : g_R w 2625 1 = some 2388 ∧ g_ln w 2388 = 17 := F (2625, 2388, 17) (by decide)
  have f5 : g_R w 2689 1 = some 2452 ∧ g_ln w 2452 = 102 := F (2689, 2452, 102) (by decide)
  have f6 : g_R w 3905 1 = some 3284 ∧ g_ln w 3284 = 120 := F (3905, 3284, 120) (by decide)
  have f7 : g_R w 4161 1 = some 3540 ∧ g_ln w 3540 = 120 := F (4161, 3540, 120) (by decide)
  obtain ⟨l1, l2, l3, l4, ⟨d1, d2, d3, d4⟩, l6, -, -⟩ := L
  obtain ⟨h1, h2, h3, b, h4, h5, h6⟩ := So
  have z0 : ∀ c : Nat, Int32.ofNat c + 0 = Int32.ofNat c := fun c => Int32.add_zero _
  -- within NOT EXISTS
  have cd : ∀ (d i f c : Nat), i + d = cds.length → d < f → f_M_timesNamed_54 f (some 1) (Int32.ofNat s) (Int32.ofNat q) (Int32.ofNat c) (Int32.ofNat i) w = some (Int32.ofNat (c + r_ct1 (fun i => r_isn q (cds.getD i r_cd0)) d i), w) := by
    intro d
    induction d with
    | zero =>
      intro i f c e1 e2
      obtain ⟨f, rfl⟩ : ∃ m, f = m + 1 := ⟨f - 1, by omega⟩
      rw [f_M_timesNamed_54, x_gR, f4.1, x_aI (by omega) (by omega), d3, if_pos (by rw [x_le (by omega) (by omega)]; omega)]
      rfl
    | succ d ih =>
      intro i f c e1 e2
      obtain ⟨f, rfl⟩ : ∃ m, f = m + 1 := ⟨f - 1, by omega⟩
      obtain ⟨cn, c1, c2⟩ := d4 i (by omega)
      have us := l6 i (by omega)
      rw [f_M_timesNamed_54, x_gR, f4.1, x_aI (by omega) (by omega), d3, if_neg (by rw [x_le (by omega) (by omega)]; omega), x_gR, f5.1, show (6 : Int32) = Int32.ofNat 6 from rfl, x_mul, x_add, x_aI (by omega) (by omega), c1, x_gR, f6.1, r_ct1]
      have go := fun c => ih (i + 1) f c (by omega) (by omega)
      generalize cds.getD i r_cd0 = cc at c2 us ⊢
      cases cc with
      | inl bb =>
        have c3 : M_vcp w (M_mm Xs ms) cn bb := c2
        have cl := c3.1
        rw [x_aI (by omega) (by omega), if_neg (by
          rcases c3.2.2 with z | z
          · rw [z.2]; decide
          · rw [z.2.1]; decide), z0, x_p1, if_neg (show ¬ r_isn q (.inl bb) = true from Bool.false_ne_true), Nat.zero_add]
        exact go c
      | inr z =>
        have c3 : M_vcn w Xs (M_mm Xs ms) cn z := c2
        have us' : M_ok np nt z.1 ∧ _ := us
        have cl := c3.1
        obtain ⟨k, k1, k2, k3⟩ := c3.2.2.2.2.1
        rw [x_aI (by omega) (by omega), if_pos c3.2.1, x_gR, f2.1, x_gR, f7.1, x_aI (by omega) (by omega), k1, x_aI (by omega) (by omega), k3]
        by_cases g : z.1 = .inl q
        · rw [if_pos (show Int32.ofNat (M_mc z.1) = 10 + Int32.ofNat q from by rw [M_mc_inl n5 us'.1 hq np4]; exact g), x_p1, x_p1, if_pos (show r_isn q (.inr z) = true from decide_eq_true g), ← Nat.add_assoc]
          exact go (c + 1)
        · rw [if_neg (show ¬ Int32.ofNat (M_mc z.1) = 10 + Int32.ofNat q from by rw [M_mc_inl n5 us'.1 hq np4]; exact g), z0, x_p1, if_neg (show ¬ r_isn q (.inr z) = true from fun h => g (of_decide_eq_true h)), Nat.zero_add]
          exact go c
  -- the sources
  have sr : ∀ (d i f c : Nat), i + d = ms.length → d < f → f_M_timesNamed_5 f (some 1) (Int32.ofNat s) (Int32.ofNat q) (Int32.ofNat c) (Int32.ofNat i) w = f_M_timesNamed_54 200000 (some 1) (Int32.ofNat s) (Int32.ofNat q) (Int32.ofNat (c + r_ct1 (fun m => decide (r_ml ms m = .inl q)) d i)) 0 w := by
    intro d
    induction d with
    | zero =>
      intro i f c e1 e2
      obtain ⟨f, rfl⟩ : ∃ m, f = m + 1 := ⟨f - 1, by omega⟩
      rw [f_M_timesNamed_5, x_gR, f1.1, x_aI (by omega) (by omega), h3, if_pos (by rw [x_le (by omega) (by omega)]; omega)]
      rfl
    | succ d ih =>
      intro i f c e1 e2
      obtain ⟨f, rfl⟩ : ∃ m, f = m + 1 := ⟨f - 1, by omega⟩
      obtain ⟨m1, m2⟩ := h6 i (by omega)
      rw [f_M_timesNamed_5, x_gR, f1.1, x_aI (by omega) (by omega), h3, if_neg (by rw [x_le (by omega) (by omega)]; omega), x_gR, f2.1, x_gR, f3.1, x_aI (by omega) (by omega), h4, x_add, x_aI (by omega) (by omega), m2, r_ct1, x_p1]
      by_cases g : r_ml ms i = .inl q
      · rw [if_pos (show Int32.ofNat (M_mc (r_ml ms i)) = 10 + Int32.ofNat q from by rw [M_mc_inl n5 m1 hq np4]; exact g), x_p1, if_pos (decide_eq_true g), ← Nat.add_assoc]
        exact ih (i + 1) f (c + 1) (by omega) (by omega)
      · rw [if_neg (show ¬ Int32.ofNat (M_mc (r_ml ms i)) = 10 + Int32.ofNat q from by rw [M_mc_inl n5 m1 hq np4]; exact g), z0, x_p1, if_neg (fun h => g (of_decide_eq_true h)), Nat.zero_add]
        exact ih (i + 1) f c (by omega) (by omega)
  have a1 := sr ms.length 0 200000 0 (by omega) (by omega)
  have b1 := cd cds.length 0 200000 (0 + r_ct1 (fun m => decide (r_ml ms m = .inl q)) ms.length 0) (by omega) (by omega)
  unfold f_M_timesNamed
  have a1' : f_M_timesNamed_5 200000 (some 1) (Int32.ofNat s) (Int32.ofNat q) 0 0 w = f_M_timesNamed_54 200000 (some 1) (Int32.ofNat s) (Int32.ofNat q) (Int32.ofNat (0 + r_ct1 (fun m => decide (r_ml ms m = .inl q)) ms.length 0)) 0 w := a1
  rw [a1']
  have b1' : f_M_timesNamed_54 200000 (some 1) (Int32.ofNat s) (Int32.ofNat q) (Int32.ofNat (0 + r_ct1 (fun m => decide (r_ml ms m = .inl q)) ms.length 0)) 0 w = _ := b1
  rw [b1', Nat.zero_add]
  rfl
end
