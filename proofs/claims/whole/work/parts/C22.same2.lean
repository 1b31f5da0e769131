/-! ENGINE AND REFERENCE FIND THE SAME FAULTS: number 2 -/
section
variable {n q : Nat} {kd pl nw nv : Nat → Nat} {x : z_Qu} {tc : Nat} {cols : Nat → Nat}
theorem z_ff_is {P : Nat → Bool} {d : Nat} : (z_ff P d 0).isSome = true ↔ ∃ j, j < d ∧ P j = true := by
  cases h : z_ff P d 0 with
  | some k =>
    obtain ⟨a1, a2, a3, -⟩ := z_ff_some h
    exact ⟨fun _ => ⟨k, by omega, a3⟩, fun _ => rfl⟩
  | none =>
    have no := z_ff_none h
    refine ⟨fun h => (by cases h), fun ⟨j, h1, h2⟩ => ?_⟩
    rw [no j (Nat.zero_le _) (by omega)] at h2
    cases h2
theorem z_wcl_inc {kd : Nat → Nat} : ∀ {l : List Nat} {p q : Nat}, z_ch (z_wcl kd) l p q → ∀ i j, i < j → j < l.length → l.getD i 0 < l.getD j 0 := by
  intro l
  induction l with
  | nil => intro p q _ i j _ h; cases h
  | cons x l ih =>
    intro p q h i j h1 h2
    obtain ⟨p1, q1, a1, a2, ⟨a3, a4, -⟩, a5⟩ := h
    rw [List.length_cons] at h2
    cases j with
    | zero => omega
    | succ j =>
      have hj : (x :: l).getD (j + 1) 0 = l.getD j 0 := rfl
      rw [hj]
      cases i with
      | zero =>
        show x < _
        obtain ⟨p2, q2, b1, b2, b3, -⟩ := a5.all _ (z_getD_m (d := 0) (show j < l.length by omega))
        omega
      | succ i => exact ih a5 i j (by omega) (by omega)
/-- the tokens of a part's words rise -/
theorem z_wpa_ord {p r : Nat} {X : z_Pa} (h : z_wpa kd p r X) (hr : r ≤ n) : (∀ i j, i < j → j < X.2.1.length → X.2.1.getD i 0 < X.2.1.getD j 0) ∧ (∀ i s, i < X.2.1.length → X.2.2.2.2.1 = some s → X.2.1.getD i 0 < s.2 + 5) ∧ (∀ i s, i < X.2.1.length → X.2.2.2.2.2 = some s → X.2.1.getD i 0 < s + 2) ∧ (∀ s s', X.2.2.2.2.1 = some s → X.2.2.2.2.2 = some s' → s.2 + 5 < s' + 2) ∧ (∀ i, i < X.2.1.length → X.2.1.getD i 0 ≤ n) ∧ (∀ s, X.2.2.2.2.1 = some s → s.2 + 5 ≤ n) ∧ (∀ s, X.2.2.2.2.2 = some s → s + 2 ≤ n) := by
  obtain ⟨h1, h2, a, b, d, c1, c2, c3, c4, c5, c6⟩ := h
  have l2 := c2.le
  have l3 : b ≤ d := by
    revert c3
    cases X.2.2.2.2.1 with
    | none => intro c3; exact c3
    | some y => intro c3; have := c3.1; have := c3.2.2.2; omega
  have l4 : d ≤ r := by
    revert c4
    cases X.2.2.2.2.2 with
    | none => intro c4; exact c4
    | some y => intro c4; have := c4.1; have := c4.2.2.2; omega
  have cl : ∀ i, i < X.2.1.length → X.2.1.getD i 0 < a := fun i hi => by
    obtain ⟨p2, q2, b1, b2, b3, b4, -⟩ := c1.all _ (z_getD_m (d := 0) hi)
    omega
  refine ⟨z_wcl_inc c1, fun i s hi e => ?_, fun i s hi e => ?_, fun s s' e e' => ?_, fun i hi => ?_, fun s e => ?_, fun s e => ?_⟩
  · rw [e] at c3; have := cl i hi; have := c3.1; omega
  · rw [e] at c4; have := cl i hi; have := c4.1; omega
  · rw [e] at c3; rw [e'] at c4; have := c3.2.2.2; have := c4.1; omega
  · have := cl i hi; omega
  · rw [e] at c3; have := c3.2.2.2; omega
  · rw [e] at c4; have := c4.2.2.2; omega
theorem z_words (hmo : ∀ i j, i ≤ j → j ≤ n → pl i ≤ pl j) {p r : Nat} {X : z_Pa} (h : z_wpa kd p r X) (hr : r ≤ n) (h3 : X.2.1.length ≤ 3) (y : Nat) : (∃ i, i < 5 ∧ ∃ j, j < i ∧ z_wsm nw pl X i j y) ↔ (∃ i, 1 ≤ i ∧ i < X.2.1.length ∧ z_frs nw X (X.2.1.getD i 0) i false = true ∧ y = pl (X.2.1.getD i 0)) ∨ (∃ s, X.2.2.2.2.1 = some s ∧ z_frs nw X (s.2 + 5) X.2.1.length false = true ∧ y = pl (s.2 + 5)) ∨ (∃ s, X.2.2.2.2.2 = some s ∧ z_frs nw X (s + 2) X.2.1.length true = true ∧ y = pl (s + 2)) := by
  obtain ⟨o1, o2, o3, o4, o5, o6, o7⟩ := z_wpa_ord h hr
  have w1 : ∀ i, i < X.2.1.length → z_wt X i = some (X.2.1.getD i 0) := fun i hi => by unfold z_wt; rw [if_pos hi]
  have w2 : ∀ i, X.2.1.length ≤ i → i < 3 → z_wt X i = none := fun i hi h => by unfold z_wt; rw [if_neg (by omega), if_neg (by omega), if_neg (by omega)]
  have w3 : z_wt X 3 = X.2.2.2.2.2.map (· + 2) := by unfold z_wt; rw [if_neg (by omega), if_pos rfl]
  have w4 : z_wt X 4 = X.2.2.2.2.1.map (fun y => y.2 + 5) := by unfold z_wt; rw [if_neg (by omega), if_neg (by decide), if_pos rfl]
  have ff : ∀ t bf, (z_ff (fun i => decide (nw (X.2.1.getD i 0) = nw t)) bf 0).isSome = true ↔ ∃ j, j < bf ∧ nw (X.2.1.getD j 0) = nw t := fun t bf => by
    rw [z_ff_is]
    exact ⟨fun ⟨j, a, b⟩ => ⟨j, a, of_decide_eq_true b⟩, fun ⟨j, a, b⟩ => ⟨j, a, decide_eq_true b⟩⟩
  have fr : ∀ t bf, z_frs nw X t bf false = true ↔ ∃ j, j < bf ∧ nw (X.2.1.getD j 0) = nw t := fun t bf => by
    unfold z_frs
    rw [Bool.false_and, Bool.false_or, ff]
  have ft : ∀ t bf, z_frs nw X t bf true = true ↔ z_trl nw X t = true ∨ ∃ j, j < bf ∧ nw (X.2.1.getD j 0) = nw t := fun t bf => by
    unfold z_frs
    rw [Bool.true_and, Bool.or_eq_true, ff]
  have mx : ∀ a b, a < b → b ≤ n → max (pl b) (pl a) = pl b := fun a b h1 h2 => Nat.max_eq_left (hmo a b (by omega) h2)
  have mx' : ∀ a b, a < b → b ≤ n → max (pl a) (pl b) = pl b := fun a b h1 h2 => Nat.max_eq_right (hmo a b (by omega) h2)
  constructor
  · rintro ⟨i, i5, j, ji, t, t', e1, e2, e3, e4⟩
    by_cases c1 : i < X.2.1.length
    · rw [w1 i c1] at e1
      rw [w1 j (by omega)] at e2
      cases e1
      cases e2
      have := o1 j i ji c1
      refine Or.inl ⟨i, by omega, c1, (fr _ _).mpr ⟨j, ji, e3.symm⟩, ?_⟩
      rw [e4, mx _ _ this (o5 i c1)]
    · by_cases c2 : i < 3
      · rw [w2 i (by omega) c2] at e1; cases e1
      · by_cases c3 : i = 3
        · rw [c3, w3] at e1
          cases hx : X.2.2.2.2.2 with
          | none => rw [hx] at e1; cases e1
          | some s =>
            rw [hx] at e1
            cases e1
            by_cases c4 : j < X.2.1.length
            · rw [w1 j c4] at e2
              cases e2
              refine Or.inr (Or.inr ⟨s, rfl, (ft _ _).mpr (Or.inr ⟨j, c4, e3.symm⟩), ?_⟩)
              rw [e4, mx _ _ (o3 j s c4 hx) (o7 s hx)]
            · rw [w2 j (by omega) (by omega)] at e2; cases e2
        · have c5 : i = 4 := by omega
          rw [c5, w4] at e1
          cases hx : X.2.2.2.2.1 with
          | none => rw [hx] at e1; cases e1
          | some s =>
            rw [hx] at e1
            cases e1
            by_cases c4 : j < X.2.1.length
            · rw [w1 j c4] at e2
              cases e2
              refine Or.inr (Or.inl ⟨s, rfl, (fr _ _).mpr ⟨j, c4, e3.symm⟩, ?_⟩)
              rw [e4, mx _ _ (o2 j s c4 hx) (o6 s hx)]
            · by_cases c6 : j < 3
              · rw [w2 j (by omega) c6] at e2; cases e2
              · rw [show j = 3 by omega, w3] at e2
                cases hy : X.2.2.2.2.2 with
                | none => rw [hy] at e2; cases e2
                | some s' =>
                  rw [hy] at e2
                  cases e2
                  refine Or.inr (Or.inr ⟨s', rfl, (ft _ _).mpr (Or.inl ?_), ?_⟩)
                  · unfold z_trl
                    rw [hx]
                    exact decide_eq_true e3
                  · rw [e4, mx' _ _ (o4 s s' hx hy) (o7 s' hy)]
  · rintro (⟨i, i1, i2, i3, i4⟩ | ⟨s, s1, s2, s3⟩ | ⟨s, s1, s2, s3⟩)
    · obtain ⟨j, j1, j2⟩ := (fr _ _).mp i3
      have := o1 j i j1 i2
      exact ⟨i, by omega, j, j1, _, _, w1 i i2, w1 j (by omega), j2.symm, by rw [i4, mx _ _ this (o5 i i2)]⟩
    · obtain ⟨j, j1, j2⟩ := (fr _ _).mp s2
      exact ⟨4, by omega, j, by omega, s.2 + 5, _, by rw [w4, s1]; rfl, w1 j j1, j2.symm, by rw [s3, mx _ _ (o2 j s j1 s1) (o6 s s1)]⟩
    · rcases (ft _ _).mp s2 with h | ⟨j, j1, j2⟩
      · unfold z_trl at h
        cases hx : X.2.2.2.2.1 with
        | none => rw [hx] at h; cases h
        | some s' =>
          rw [hx] at h
          exact ⟨4, by omega, 3, by omega, s'.2 + 5, s + 2, by rw [w4, hx]; rfl, by rw [w3, s1]; rfl, of_decide_eq_true h, by rw [s3, mx' _ _ (o4 s' s hx s1) (o7 s s1)]⟩
      · exact ⟨3, by omega, j, by omega, s + 2, _, by rw [w3, s1]; rfl, w1 j j1, j2.symm, by rw [s3, mx _ _ (o3 j s j1 s1) (o7 s s1)]⟩
theorem z_pair {a b y : Nat} : ((2, y) : Nat × Nat) = (2, a) ↔ y = a := ⟨fun h => (Prod.mk.inj h).2, fun h => by rw [h]⟩
theorem z_same_p (hmo : ∀ i j, i ≤ j → j ≤ n → pl i ≤ pl j) (W : z_wqu kd q x) (hq : q ≤ n) (h3 : ∀ m, m < x.2.1.length → (x.2.1.getD m z_pa0).2.1.length ≤ 3) {m : Nat} (hm : m < x.2.1.length) (y : Nat) : z_pf2 nw pl x.2.1 m y ↔ q_pnt nw pl x.2.1 m (2, y) := by
  obtain ⟨a, b, g1, g2, g3, g4, g5⟩ := W
  obtain ⟨p1, q1, d1, d2, d3⟩ := g1.all _ (z_getD_m (d := z_pa0) hm)
  have hr : q1 ≤ n := by have := z_wod_le g4; omega
  unfold z_pf2 q_pnt q_pn3 q_pn4 z_pse z_pcy
  rw [z_words hmo d3 hr (h3 m hm)]
  have nn : ∀ t, (z_own1 nw (x.2.1.getD m z_pa0) t).isNone = true ↔ z_own1 nw (x.2.1.getD m z_pa0) t = none := fun t => Option.isNone_iff_eq_none
  constructor
  · rintro (⟨k, k1, k2, k3⟩ | (⟨i, i1, i2, i3, i4⟩ | ⟨s, s1, s2, s3⟩ | ⟨s, s1, s2, s3⟩) | ⟨s, s1, s2, s3⟩ | ⟨s, s1, s2, s3⟩)
    · exact Or.inl (Or.inl (Or.inl ⟨k, Nat.zero_le _, by omega, decide_eq_true k2, by rw [k3]⟩))
    · exact Or.inl (Or.inl (Or.inr ⟨i, i1, by omega, i3, by rw [i4]⟩))
    · exact Or.inl (Or.inr ⟨s, s1, Or.inr ⟨s2, by rw [s3]⟩⟩)
    · exact Or.inr ⟨s, s1, Or.inr ⟨s2, by rw [s3]⟩⟩
    · exact Or.inl (Or.inr ⟨s, s1, Or.inl ⟨(nn _).mpr s2, by rw [s3]⟩⟩)
    · exact Or.inr ⟨s, s1, Or.inl ⟨(nn _).mpr s2, by rw [s3]⟩⟩
  · rintro (((⟨k, -, k1, k2, k3⟩ | ⟨i, i1, i2, i3, i4⟩) | ⟨s, s1, ⟨s2, s3⟩ | ⟨s2, s3⟩⟩) | ⟨s, s1, ⟨s2, s3⟩ | ⟨s2, s3⟩⟩)
    · exact Or.inl ⟨k, by omega, of_decide_eq_true k2, (Prod.mk.inj k3).2⟩
    · exact Or.inr (Or.inl (Or.inl ⟨i, i1, by omega, i3, (Prod.mk.inj i4).2⟩))
    · exact Or.inr (Or.inr (Or.inl ⟨s, s1, (nn _).mp s2, (Prod.mk.inj s3).2⟩))
    · exact Or.inr (Or.inl (Or.inr (Or.inl ⟨s, s1, s2, (Prod.mk.inj s3).2⟩)))
    · exact Or.inr (Or.inr (Or.inr ⟨s, s1, (nn _).mp s2, (Prod.mk.inj s3).2⟩))
    · exact Or.inr (Or.inl (Or.inr (Or.inr ⟨s, s1, s2, (Prod.mk.inj s3).2⟩)))
theorem z_dup_iff {srs : List Nat} (hinc : ∀ i j, i < j → j < srs.length → srs.getD i 0 < srs.getD j 0) {m : Nat} (hm : m < srs.length) : z_dup nw srs (srs.getD m 0) = true ↔ ∃ k, k < m ∧ nw (srs.getD k 0 + 1) = nw (srs.getD m 0 + 1) := by
  unfold z_dup
  rw [z_slt_2]
  unfold z_sl2 z_sl3
  cases h : z_ff (fun k => decide (nw (srs.getD k 0 + 1) = nw (srs.getD m 0 + 1))) srs.length 0 with
  | none =>
    have := z_ff_none h m (Nat.zero_le _) (by omega)
    rw [decide_eq_true rfl] at this
    cases this
  | some j =>
    obtain ⟨a1, a2, a3, a4⟩ := z_ff_some h
    simp only [decide_eq_true_eq]
    constructor
    · intro ne
      refine ⟨j, ?_, of_decide_eq_true a3⟩
      by_cases l : j < m
      · exact l
      · by_cases e : j = m
        · rw [e] at ne; exact absurd rfl ne
        · have := a4 m (Nat.zero_le _) (by omega)
          rw [decide_eq_true rfl] at this
          cases this
    · rintro ⟨k, k1, k2⟩ e
      by_cases l : j = m
      · have := a4 k (Nat.zero_le _) (by omega)
        rw [decide_eq_true k2] at this
        cases this
      · by_cases lt : j < m
        · have := hinc j m lt hm; omega
        · have := hinc m j (by omega) (by omega); omega
theorem z_slt_is {srs : List Nat} {t : Nat} : (z_slt nw srs t none).isSome = true ↔ ∃ k, k < srs.length ∧ nw (srs.getD k 0 + 1) = nw t := by
  rw [z_slt_2]
  unfold z_sl2 z_sl3
  have := z_ff_is (P := fun k => decide (nw (srs.getD k 0 + 1) = nw t)) (d := srs.length)
  cases h : z_ff (fun k => decide (nw (srs.getD k 0 + 1) = nw t)) srs.length 0 with
  | none =>
    rw [h] at this
    refine ⟨fun h => (by cases h), fun ⟨k, k1, k2⟩ => ?_⟩
    have := this.mpr ⟨k, k1, decide_eq_true k2⟩
    cases this
  | some j =>
    rw [h] at this
    obtain ⟨k, k1, k2⟩ := this.mp rfl
    exact ⟨fun _ => ⟨k, k1, of_decide_eq_true k2⟩, fun _ => rfl⟩
theorem z_gc_pos : ∀ l : List z_It, (l.any fun i => decide (i.1 ≠ 0)) = true ↔ 0 < z_gc l := by
  intro l
  induction l with
  | nil => exact ⟨fun h => (by cases h), fun h => absurd h (by decide)⟩
  | cons y l ih =>
    have : z_gc (y :: l) = (if y.1 = 0 then 0 else 1) + z_gc l := by unfold z_gc; rw [List.map_cons, List.sum_cons]
    rw [List.any_cons, Bool.or_eq_true, ih, this, decide_eq_true_eq]
    by_cases e : y.1 = 0
    · rw [if_pos e]
      exact ⟨fun h => h.elim (fun h => absurd e h) (fun h => by omega), fun h => Or.inr (by omega)⟩
    · rw [if_neg e]
      exact ⟨fun _ => by omega, fun _ => Or.inl e⟩
theorem z_sels_ex {P : Nat × z_Se → Prop} : (∃ v ∈ z_sels x, P v) ↔ ∃ s, s < (z_sels x).length ∧ P (z_sv x s) := by
  constructor
  · rintro ⟨v, h1, h2⟩
    obtain ⟨s, s1, s2⟩ := z_mgd (0, z_se0) h1
    exact ⟨s, s1, by unfold z_sv; rw [s2]; exact h2⟩
  · rintro ⟨s, h1, h2⟩
    exact ⟨_, z_getD_m h1, h2⟩
theorem z_same_s (W : z_wqu kd q x) (hq : q ≤ n) {s : Nat} (hs : s < (z_sels x).length) (y : Nat) : q_snt nw pl x tc cols (z_sv x s).1 (z_sv x s).2 (2, y) ↔ (∃ sl t, q_so (z_sv x s).2 sl t ∧ z_sf2 nw pl x tc s sl t y) ∨ ∃ wi e, q_te (z_sv x s).2 wi e ∧ e.2.1 = 2 ∧ z_tbad false (z_tcl nw x.2.1 tc cols (z_sv x s).2.2.2.1 wi e.2.2) = true ∧ y = pl e.2.2 := by
  obtain ⟨p, r, hr, h1, a, b, x1, x2, x3⟩ := z_sv_w W hq hs
  have hinc := z_wso_inc x2
  unfold q_snt z_sf2
  constructor
  · rintro ((⟨t, t1, ⟨t2, t3⟩ | ⟨t2, t3⟩⟩ | ⟨i, i1, e, e1, e2, e3, e4⟩) | ⟨cc, c1, c2⟩)
    · obtain ⟨m, m1, m2⟩ := z_mgd 0 t1
      exact Or.inl ⟨some m, t, ⟨m1, m2⟩, Or.inl ⟨t2, (Prod.mk.inj t3).2⟩⟩
    · obtain ⟨m, m1, m2⟩ := z_mgd 0 t1
      rw [← m2, z_dup_iff hinc m1] at t2
      obtain ⟨k, k1, k2⟩ := t2
      rw [m2] at k2
      exact Or.inl ⟨some m, t, ⟨m1, m2⟩, Or.inr ⟨k, k1, k2, (Prod.mk.inj t3).2⟩⟩
    · exact Or.inr ⟨none, e, Or.inl ⟨rfl, i, i1, e1⟩, e2, e3, (Prod.mk.inj e4).2⟩
    · cases cc with
      | inl bb =>
        obtain ⟨e, e1, e2, e3, e4⟩ := c2
        exact Or.inr ⟨none, e, Or.inr (Or.inl ⟨bb, c1, rfl, e1⟩), e2, e3, (Prod.mk.inj e4).2⟩
      | inr z =>
        rcases c2 with (⟨t2, t3⟩ | ⟨t2, t3⟩) | ⟨bb, b1, e, e1, e2, e3, e4⟩
        · exact Or.inl ⟨none, z.1, ⟨_, c1, rfl⟩, Or.inl ⟨t2, (Prod.mk.inj t3).2⟩⟩
        · obtain ⟨k, k1, k2⟩ := z_slt_is.mp t2
          exact Or.inl ⟨none, z.1, ⟨_, c1, rfl⟩, Or.inr ⟨k, k1, k2, (Prod.mk.inj t3).2⟩⟩
        · exact Or.inr ⟨some z.1, e, Or.inr (Or.inr ⟨z, c1, rfl, bb, b1, e1⟩), e2, e3, (Prod.mk.inj e4).2⟩
  · rintro (⟨sl, t, h1, h2⟩ | ⟨wi, e, h1, h2, h3, h4⟩)
    · cases sl with
      | some m =>
        obtain ⟨m1, m2⟩ := h1
        refine Or.inl (Or.inl ⟨t, by rw [← m2]; exact z_getD_m m1, ?_⟩)
        rcases h2 with ⟨g1, g2⟩ | ⟨k, k1, k2, k3⟩
        · exact Or.inl ⟨g1, by rw [g2]⟩
        · refine Or.inr ⟨?_, by rw [k3]⟩
          rw [← m2] at k2 ⊢
          exact (z_dup_iff hinc m1).mpr ⟨k, k1, k2⟩
      | none =>
        obtain ⟨cc, c1, c2⟩ := h1
        cases cc with
        | inl bb => cases c2
        | inr z =>
          cases c2
          refine Or.inr ⟨_, c1, Or.inl ?_⟩
          rcases h2 with ⟨g1, g2⟩ | ⟨k, k1, k2, k3⟩
          · exact Or.inl ⟨g1, by rw [g2]⟩
          · exact Or.inr ⟨z_slt_is.mpr ⟨k, k1, k2⟩, by rw [k3]⟩
    · rcases h1 with ⟨g1, i, g2, g3⟩ | ⟨bb, g1, g2, g3⟩ | ⟨z, g1, g2, bb, g3, g4⟩
      · rw [g1] at h3
        exact Or.inl (Or.inr ⟨i, g2, e, g3, h2, h3, by rw [h4]⟩)
      · rw [g2] at h3
        exact Or.inr ⟨_, g1, e, g3, h2, h3, by rw [h4]⟩
      · rw [g2] at h3
        exact Or.inr ⟨_, g1, Or.inr ⟨bb, g3, e, g4, h2, h3, by rw [h4]⟩⟩
/-- the faults of number 2 are the same -/
theorem z_same2 (hmo : ∀ i j, i ≤ j → j ≤ n → pl i ≤ pl j) (W : z_wqu kd q x) (hq : q ≤ n) (h3 : ∀ m, m < x.2.1.length → (x.2.1.getD m z_pa0).2.1.length ≤ 3) (y : Nat) : z_fl nw pl x tc cols 2 y ↔ q_ant nw pl x tc cols (2, y) := by
  have n8 : ∀ m, ¬ z_wr nw x tc m 2 := fun m h => by
    unfold z_wr at h
    rcases h with ⟨h, -⟩ | ⟨h, -⟩ | ⟨h, -⟩ | ⟨h, -⟩ <;> omega
  have own : (z_sv x (z_tot x.2.1)).2 = x.2.2.1 := by rw [z_sv_own]
  have hsl : z_tot x.2.1 < (z_sels x).length := by rw [z_sv_len]; omega
  unfold q_ant q_ont
  rw [z_sels_ex (P := fun v => q_snt nw pl x tc cols v.1 v.2 (2, y))]
  unfold z_fl
  constructor
  · rintro (⟨-, ⟨m, m1, m2⟩ | ⟨s, sl, t, s1, s2, s3⟩ | ⟨o, s, wi, t, ⟨o1, o2, e, o3, o4, o5⟩ | ⟨o1, o2, o3, y', o4, o5⟩, h2, h3⟩ | ⟨o, o1, o2, o3⟩⟩ | ⟨h, -⟩ | ⟨h, -⟩ | ⟨m, -, h, -⟩)
    · exact Or.inl (Or.inl ⟨m, Nat.zero_le _, by omega, (z_same_p hmo W hq h3 m1 y).mp m2⟩)
    · exact Or.inl (Or.inr ⟨s, s1, (z_same_s W hq s1 y).mpr (Or.inl ⟨sl, t, s2, s3⟩)⟩)
    · rw [o1] at h2
      rw [← o5] at h2 h3
      exact Or.inl (Or.inr ⟨s, o2, (z_same_s W hq o2 y).mpr (Or.inr ⟨wi, e, o3, o4, h2, h3⟩)⟩)
    · rw [o1, o2, o3, own] at h2
      exact Or.inr ⟨y', o4, Or.inr ⟨t, o5, h2, by rw [h3]⟩⟩
    · exact Or.inr ⟨o, o1, Or.inl ⟨(z_gc_pos _).mpr o2, by rw [o3]⟩⟩
    · omega
    · omega
    · exact absurd h (n8 m)
  · rintro ((⟨m, -, m1, m2⟩ | ⟨s, s1, s2⟩) | ⟨o, o1, ⟨o2, o3⟩ | ⟨t, o2, o3, o4⟩⟩)
    · exact Or.inl ⟨rfl, Or.inl ⟨m, by omega, (z_same_p hmo W hq h3 (by omega) y).mpr m2⟩⟩
    · rcases (z_same_s W hq s1 y).mp s2 with ⟨sl, t, g1, g2⟩ | ⟨wi, e, g1, g2, g3, g4⟩
      · exact Or.inl ⟨rfl, Or.inr (Or.inl ⟨s, sl, t, s1, g1, g2⟩)⟩
      · exact Or.inl ⟨rfl, Or.inr (Or.inr (Or.inl ⟨false, s, wi, e.2.2, Or.inl ⟨rfl, s1, e, g1, g2, rfl⟩, g3, g4⟩))⟩
    · exact Or.inl ⟨rfl, Or.inr (Or.inr (Or.inr ⟨o, o1, (z_gc_pos _).mp o2, (Prod.mk.inj o3).2⟩))⟩
    · refine Or.inl ⟨rfl, Or.inr (Or.inr (Or.inl ⟨true, z_tot x.2.1, none, t, Or.inr ⟨rfl, rfl, rfl, o, o1, o2⟩, ?_, (Prod.mk.inj o4).2⟩))⟩
      rw [own]
      exact o3
end
