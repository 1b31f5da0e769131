/-! THE CHECK: all is resolved (reference) -/
def z_sy : Nat → List z_Pa → List (Nat × z_Se)
  | _, [] => []
  | k, X :: l => X.2.2.1.map (fun y => (k, y)) ++ z_sy (k + 1) l
/-- all selections, each with its owner -/
def z_sels (x : z_Qu) : List (Nat × z_Se) := z_sy 0 x.2.1 ++ [(4, x.2.2.1)]
theorem z_tot_cons (X : z_Pa) (l : List z_Pa) : z_tot (X :: l) = X.2.2.1.length + z_tot l := rfl
theorem z_sy_len : ∀ (l : List z_Pa) (k : Nat), (z_sy k l).length = z_tot l := by
  intro l
  induction l with
  | nil => intro k; rfl
  | cons X l ih => intro k; rw [z_sy, List.length_append, List.length_map, ih, z_tot_cons]
theorem z_sy_at {Pr : Nat → Nat × z_Se → Prop} : ∀ (l : List z_Pa) (k s0 : Nat), (∀ j, j < l.length → ∀ m, m < (l.getD j z_pa0).2.2.1.length → Pr (s0 + z_tot (l.take j) + m) (k + j, (l.getD j z_pa0).2.2.1.getD m z_se0)) → ∀ i, i < (z_sy k l).length → Pr (s0 + i) ((z_sy k l).getD i (0, z_se0)) := by
  intro l
  induction l with
  | nil => intro k s0 h i hi; cases hi
  | cons X l ih =>
    intro k s0 h i hi
    rw [z_sy]
    by_cases w : i < X.2.2.1.length
    · have := h 0 (Nat.zero_lt_succ _) i w
      have e : (X.2.2.1.map (fun y => (k, y)) ++ z_sy (k + 1) l).getD i (0, z_se0) = (k, X.2.2.1.getD i z_se0) := by
        rw [List.getD_eq_getElem?_getD, List.getElem?_append_left (by rw [List.length_map]; exact w), List.getElem?_map, List.getD_eq_getElem?_getD, List.getElem?_eq_getElem w]; rfl
      rw [e]
      exact this
    · have e : (X.2.2.1.map (fun y => (k, y)) ++ z_sy (k + 1) l).getD i (0, z_se0) = (z_sy (k + 1) l).getD (i - X.2.2.1.length) (0, z_se0) := by
        rw [List.getD_eq_getElem?_getD, List.getElem?_append_right (by rw [List.length_map]; omega), List.getD_eq_getElem?_getD, List.length_map]
      have g := ih (k + 1) (s0 + X.2.2.1.length) (fun j hj m hm => by
        have := h (j + 1) (Nat.succ_lt_succ hj) m hm
        rw [List.take_succ_cons, z_tot_cons, show s0 + (X.2.2.1.length + z_tot (l.take j)) + m = s0 + X.2.2.1.length + z_tot (l.take j) + m from (by omega), show k + (j + 1) = k + 1 + j from (by omega)] at this
        exact this) (i - X.2.2.1.length) (by
          rw [z_sy, List.length_append, List.length_map] at hi
          omega)
      rw [show s0 + X.2.2.1.length + (i - X.2.2.1.length) = s0 + i from (by omega)] at g
      rw [e]
      exact g
theorem z_ch.app {α : Type} {P : Nat → Nat → α → Prop} : ∀ {l l' : List α} {p q r : Nat}, z_ch P l p q → z_ch P l' q r → z_ch P (l ++ l') p r := by
  intro l
  induction l with
  | nil => intro l' p q r h g; exact g.lo h
  | cons x l ih =>
    intro l' p q r h g
    obtain ⟨p1, q1, h1, h2, h3, h4⟩ := h
    exact ⟨p1, q1, h1, h2, h3, ih h4 g⟩
theorem z_ch.map {α β : Type} {P : Nat → Nat → α → Prop} {R : Nat → Nat → β → Prop} {f : α → β} (hf : ∀ p q x, P p q x → R p q (f x)) : ∀ {l : List α} {p q : Nat}, z_ch P l p q → z_ch R (l.map f) p q := by
  intro l
  induction l with
  | nil => intro p q h; exact h
  | cons x l ih =>
    intro p q h
    obtain ⟨p1, q1, h1, h2, h3, h4⟩ := h
    exact ⟨p1, q1, h1, h2, hf _ _ _ h3, ih h4⟩
theorem z_sy_ch {kd : Nat → Nat} : ∀ (l : List z_Pa) (k p q : Nat), z_ch (z_wpa kd) l p q → z_ch (fun p q v => z_wse kd p q v.2) (z_sy k l) p q := by
  intro l
  induction l with
  | nil => intro k p q h; exact h
  | cons X l ih =>
    intro k p q h
    obtain ⟨p1, q1, h1, h2, h3, h4⟩ := h
    obtain ⟨g1, g2, a, b, d, c1, c2, c3, c4, c5, c6⟩ := h3
    have l1 := c1.le
    have l3 : b ≤ d := by
      revert c3
      cases X.2.2.2.2.1 with
      | none => intro c3; exact c3
      | some y => intro c3; have := c3.1; have := c3.2.2.2; omega
    have l4 : d ≤ q1 := by
      revert c4
      cases X.2.2.2.2.2 with
      | none => intro c4; exact c4
      | some y => intro c4; have := c4.1; have := c4.2.2.2; omega
    rw [z_sy]
    have m := (c2.map (R := fun p q (v : Nat × z_Se) => z_wse kd p q v.2) (f := fun y => (k, y)) (fun _ _ _ h => h)).lo (p' := p) (by omega)
    exact (m.hi (q' := q1) (by omega)).app (ih (k + 1) q1 q h4)
section
variable {n : Nat} {kd pl nw nv : Nat → Nat} {wd vl : Nat → Int64}
theorem M_rse.kt {wI : List Nat} {u v : g_St} {C : Nat → Nat} {ps : List z_Pa} {tc : Nat} {cols : Nat → Nat} {s : Nat} {y : z_Se} (h : M_rse n kd nw u C ps tc cols s y) (w : z_W wI z_wA3 u v) {p0 q1 p : Nat} (k : M_kt u v p) (m : M_mk nw n ps tc u v) (hx : z_wse kd p0 q1 y) (hq : q1 ≤ p) : M_rse n kd nw v C ps tc cols s y := by
  obtain ⟨⟨k0, h1⟩, ⟨i0, h20, h2, h3⟩, h4⟩ := h
  obtain ⟨-, a, b, x1, x2, x3⟩ := hx
  have l2 := x2.le
  have l3 := x3.le
  have A : ∀ a, a ∉ z_wA3 → g_AI v a = g_AI u a := fun a ha => (w.2.2.2.2.2.2.2.2 a ha).1
  refine ⟨⟨k0, h1.mk w m⟩, ⟨i0, h20, by rw [A _ (by decide)]; exact h2, fun j hj => ?_⟩, fun j hj => ?_⟩
  · obtain ⟨p2, q2, g1, g2, g3⟩ := x1.all _ (z_getD_m (d := z_it0) hj)
    rcases h3 j hj with c1 | ⟨e, c0, c1, c2⟩
    · exact Or.inl c1
    · exact Or.inr ⟨e, c0, by rw [A _ (by decide)]; exact c1, c2.kt w (fun _ h => h) k (g3.1.mono (Nat.le_refl _) (by omega))⟩
  · obtain ⟨p2, q2, g1, g2, g3⟩ := x3.all _ (z_getD_m (d := z_co0) hj)
    obtain ⟨cc, d0, d1, d2⟩ := h4 j hj
    refine ⟨cc, d0, by rw [A _ (by decide)]; exact d1, ?_⟩
    revert d2 g3
    cases y.2.2.2.getD j z_co0 with
    | inl bb => intro g3 d2; exact M_rcb.kt d2 w (fun _ h => h) k (z_wb.mono g3 (Nat.le_refl _) (by omega))
    | inr yy => intro g3 d2; exact M_rne.kt d2 w k m g3 (by omega)
/-- what a resolved selection is read from -/
def z_rA : List Nat := [2644, 2772, 2836, 2900, 2964, 3028, 3412, 3476, 3540, 3668, 3092, 3156, 3220, 2580, 2452, 2132, 2324, 2260]
theorem M_rex.A {u v : g_St} (A : ∀ a ∈ z_rA, g_AI v a = g_AI u a) {ps : List z_Pa} {tc : Nat} {cols : Nat → Nat} {srs : List Nat} {wi : Option Nat} {e : Nat} {L : z_Ex} (h : M_rex nw u ps tc cols srs wi e L) : M_rex nw v ps tc cols srs wi e L := by
  obtain ⟨o, a1, a2, a3, a4⟩ := h
  refine ⟨o, by rw [A _ (by decide)]; exact a1, fun j hj => ?_, a3, fun j hj hk => ?_⟩
  · obtain ⟨a, b, c⟩ := a2 j hj
    exact ⟨by rw [A _ (by decide)]; exact a, by rw [A _ (by decide)]; exact b, by rw [A _ (by decide)]; exact c⟩
  · obtain ⟨b1, b2⟩ := a4 j hj hk
    exact ⟨by rw [A _ (by decide)]; exact b1, by rw [A _ (by decide)]; exact b2⟩
theorem M_rcb.A {u v : g_St} (A : ∀ a ∈ z_rA, g_AI v a = g_AI u a) {ps : List z_Pa} {tc : Nat} {cols : Nat → Nat} {srs : List Nat} {wi : Option Nat} {c : Nat} {b : z_Bs} (h : M_rcb nw u ps tc cols srs wi c b) : M_rcb nw v ps tc cols srs wi c b := by
  obtain ⟨⟨e, a0, a1, a2⟩, a3⟩ := h
  refine ⟨⟨e, a0, by rw [A _ (by decide)]; exact a1, a2.A A⟩, ?_⟩
  rcases a3 with a3 | ⟨e2, a40, a4, a5⟩
  · exact Or.inl a3
  · exact Or.inr ⟨e2, a40, by rw [A _ (by decide)]; exact a4, a5.A A⟩
theorem M_rse.A {u v : g_St} (A : ∀ a ∈ z_rA, g_AI v a = g_AI u a) {C : Nat → Nat} {ps : List z_Pa} {tc : Nat} {cols : Nat → Nat} {s : Nat} {y : z_Se} (h : M_rse n kd nw u C ps tc cols s y) : M_rse n kd nw v C ps tc cols s y := by
  obtain ⟨⟨k0, s1, s2, s3, s4, s5, s6⟩, ⟨i0, h20, h2, h3⟩, h4⟩ := h
  refine ⟨⟨k0, s1, by rw [A _ (by decide)]; exact s2, by rw [A _ (by decide)]; exact s3, ⟨s4.1, fun j hj => ⟨by rw [A _ (by decide)]; exact (s4.2 j hj).1, by rw [A _ (by decide)]; exact (s4.2 j hj).2⟩⟩, s5, fun j hj => ⟨(s6 j hj).1, (s6 j hj).2.1, by rw [A _ (by decide)]; exact (s6 j hj).2.2⟩⟩, ⟨i0, h20, by rw [A _ (by decide)]; exact h2, fun j hj => ?_⟩, fun j hj => ?_⟩
  · rcases h3 j hj with c1 | ⟨e, c0, c1, c2⟩
    · exact Or.inl c1
    · exact Or.inr ⟨e, c0, by rw [A _ (by decide)]; exact c1, c2.A A⟩
  · obtain ⟨cc, d0, d1, d2⟩ := h4 j hj
    refine ⟨cc, d0, by rw [A _ (by decide)]; exact d1, ?_⟩
    revert d2
    cases y.2.2.2.getD j z_co0 with
    | inl bb => intro d2; exact M_rcb.A A d2
    | inr yy =>
      intro d2
      obtain ⟨⟨k, g1, g2⟩, g3⟩ := d2
      refine ⟨⟨k, by rw [A _ (by decide)]; exact g1, fun z hz => ?_⟩, fun j hj => ?_⟩
      · obtain ⟨t1, t2, t3, t4, t5⟩ := g2 z hz
        exact ⟨t1, ⟨by rw [A _ (by decide)]; exact t2.1, by rw [A _ (by decide)]; exact t2.2⟩, t3, t4, by rw [A _ (by decide)]; exact t5⟩
      · obtain ⟨d, f0, f1, f2⟩ := g3 j hj
        exact ⟨d, f0, by rw [A _ (by decide)]; exact f1, M_rcb.A A f2⟩
theorem M_qu.sels {u : g_St} {C : Nat → Nat} {x : z_Qu} (Q : M_qu pl u C x) : (z_sels x).length = z_tot x.2.1 + 1 ∧ ∀ i, i < (z_sels x).length → M_se pl u C i ((z_sels x).getD i (0, z_se0)).1 ((z_sels x).getD i (0, z_se0)).2 ∧ ((z_sels x).getD i (0, z_se0)).1 ≤ 4 := by
  obtain ⟨Q1, Q2, Q3, Q4, Q5, Q6, Q7, Q8, Q9, Q10, lim⟩ := Q
  have L : (z_sels x).length = z_tot x.2.1 + 1 := by unfold z_sels; rw [List.length_append, z_sy_len]; rfl
  refine ⟨L, fun i hi => ?_⟩
  unfold z_sels
  by_cases w : i < z_tot x.2.1
  · have e : (z_sy 0 x.2.1 ++ [(4, x.2.2.1)]).getD i (0, z_se0) = (z_sy 0 x.2.1).getD i (0, z_se0) := by
      rw [List.getD_eq_getElem?_getD, List.getElem?_append_left (by rw [z_sy_len]; exact w), List.getD_eq_getElem?_getD]
    rw [e]
    have := z_sy_at (Pr := fun i v => M_se pl u C i v.1 v.2 ∧ v.1 ≤ 4) x.2.1 0 0 (fun j hj m hm => by
      have := (Q5 j hj).2.2.2.2.2.1.2 m hm
      rw [Nat.zero_add, Nat.zero_add]
      exact ⟨this, by show j ≤ 4; omega⟩) i (by rw [z_sy_len]; exact w)
    rw [Nat.zero_add] at this
    exact this
  · have e : i = z_tot x.2.1 := by omega
    have e2 : (z_sy 0 x.2.1 ++ [(4, x.2.2.1)]).getD i (0, z_se0) = (4, x.2.2.1) := by
      rw [List.getD_eq_getElem?_getD, List.getElem?_append_right (by rw [z_sy_len]; omega), z_sy_len, e, Nat.sub_self]; rfl
    rw [e2, e]
    exact ⟨Q7, Nat.le_refl _⟩
/-- all that resolving notes -/
def z_ant (nw pl : Nat → Nat) (x : z_Qu) (tc : Nat) (cols : Nat → Nat) : Option (Nat × Nat) := z_ont nw pl x tc cols ((z_sels x).foldl (fun a v => z_snt nw pl x tc cols v.1 a v.2) (z_lp (fun a k => z_pnt nw pl x.2.1 k a) x.2.1.length 0 none))
def z_wA7 : List Nat := z_wA3 ++ [1748, 1812, 3796, 3860]
/-- all is resolved -/
def M_all (n : Nat) (kd nw : Nat → Nat) (u : g_St) (C : Nat → Nat) (x : z_Qu) (tc : Nat) (cols : Nat → Nat) : Prop := (∀ k, k < x.2.1.length → M_rpa nw u k (x.2.1.getD k z_pa0)) ∧ (∀ s, s < (z_sels x).length → M_rse n kd nw u C x.2.1 tc cols s ((z_sels x).getD s (0, z_se0)).2) ∧ M_ror nw u x tc cols
theorem b_all (NM : z_NM n kd wd vl nw nv) (H : z_H n kd) (hpl : ∀ i, i ≤ n → pl i ≤ 400) {u0 : g_St} {C : Nat → Nat} {x : z_Qu} {tc : Nat} {cols : Nat → Nat} (K : M_ck n kd pl vl u0 C x tc cols) {q : Nat} (W : z_wqu kd q x) (hq : q ≤ n) (ha : M_nt u0 none) :
    ∃ u', f_M_prepare_87 200000 (some 1) 0 u0 = f_M_prepare_137 (some 1) u' ∧ z_W [833, 897] z_wA7 u0 u' ∧ M_ck n kd pl vl u' C x tc cols ∧ M_all n kd nw u' C x tc cols ∧ M_nt u' (z_ant nw pl x tc cols) := by
  have hp := z_wqu_ps W hq
  have hw3 : ∀ k, (x.2.1.getD k z_pa0).2.1.length ≤ 3 := fun k => by
    by_cases w : k < x.2.1.length
    · exact (K.pv hp w).2.2.2.2.1
    · rw [List.getD_eq_getElem?_getD, List.getElem?_eq_none (by omega)]; exact Nat.zero_le _
  obtain ⟨a, b, w1, w2, w3, w4, w5⟩ := W
  have Q := K.2.2.1
  have q4 := Q.2.2.2.1
  have c1 : ∀ {u : g_St}, z_W [833, 897] z_wA7 u0 u → g_I u 1153 1 = Int32.ofNat x.2.1.length := fun w => by
    rw [w.2.2.2.2.2.2.2.1 1153 1 (by decide), Q.1 1153 (by decide), Q.2.2.1]
  have c2 : ∀ {u : g_St}, z_W [833, 897] z_wA7 u0 u → g_I u 2177 1 = Int32.ofNat (z_tot x.2.1 + 1) := fun w => by
    rw [w.2.2.2.2.2.2.2.1 2177 1 (by decide), Q.1 2177 (by decide), Q.2.2.2.2.2.2.2.1]
  have KW : ∀ {u : g_St}, z_W [833, 897] z_wA7 u0 u → M_ck n kd pl vl u C x tc cols := fun w => K.W w (by decide) (by decide) (by decide) (by decide)
  have lim : z_lim C := Q.2.2.2.2.2.2.2.2.2.2
  have tt : z_tot x.2.1 < 17 := by have := lim.1; have := Q.2.2.2.2.2.2.2.1; omega
  -- parts
  have key : ∀ d k f u a, k + d = x.2.1.length → d < f → z_W [833, 897] z_wA7 u0 u → M_nt u a → (∀ j, j < k → M_rpa nw u j (x.2.1.getD j z_pa0)) → ∃ u', f_M_prepare_87 f (some 1) (Int32.ofNat k) u = f_M_prepare_108 200000 (some 1) 0 u' ∧ z_W [833, 897] z_wA7 u0 u' ∧ (∀ j, j < x.2.1.length → M_rpa nw u' j (x.2.1.getD j z_pa0)) ∧ M_nt u' (z_lp (fun a k => z_pnt nw pl x.2.1 k a) d k a) := by
    intro d
    induction d with
    | zero =>
      intro k f u a h1 h2 h3 h4 h5
      obtain ⟨f, rfl⟩ : ∃ m, f = m + 1 := ⟨f - 1, by omega⟩
      rw [f_M_prepare_87, x_gI, c1 h3, if_pos (by rw [x_le (by omega) (by omega)]; omega)]
      exact ⟨u, rfl, h3, fun j hj => h5 j (by omega), h4⟩
    | succ d ih =>
      intro k f u a h1 h2 h3 h4 h5
      obtain ⟨f, rfl⟩ : ∃ m, f = m + 1 := ⟨f - 1, by omega⟩
      obtain ⟨v, p1, p2, p3, p4, p5⟩ := b_rpa NM H hpl (KW h3) hp (k := k) (by omega) h4
      rw [f_M_prepare_87, x_gI, c1 h3, if_neg (by rw [x_le (by omega) (by omega)]; omega), x_nn, p1, x_c, x_p1]
      exact ih (k + 1) f v _ (by omega) (by omega) (h3.trans (p3.mono (fun _ h => h) (by decide))) p2 (fun j hj => by
        by_cases w : j = k
        · rw [w]; exact p4
        · obtain ⟨y1, y2⟩ := p5 j w
          have := h5 j (by omega)
          exact ⟨fun y e => by rw [y1]; exact this.1 y e, fun y e => by rw [y2]; exact this.2 y e⟩)
  obtain ⟨u1, e1, e2, e3, e4⟩ := key x.2.1.length 0 200000 u0 none (by omega) (by omega) z_W.re ha (fun j hj => by omega)
  -- selections
  obtain ⟨sL, sE⟩ := Q.sels
  have K1 := KW e2
  obtain ⟨-, sE1⟩ := K1.2.2.1.sels
  have ch : z_ch (fun p q (v : Nat × z_Se) => z_wse kd p q v.2) (z_sels x) 0 b := (z_sy_ch x.2.1 0 0 a w1).app ⟨a, b, Nat.le_refl _, w3, w2, Nat.le_refl _⟩
  have wl := z_wod_le w4
  obtain ⟨u2, r1, r2, r3, r4, r5, r6, r7⟩ := b_rlp (nw := nw) (n := n) (ps := x.2.1) (tc := tc) (z_sels x) (0, z_se0) (fun p q (v : Nat × z_Se) => z_wse kd p q v.2) (fun f i u => f_M_prepare_108 f (some 1) (Int32.ofNat i) u) (fun u => g_c (g_nn (some 1) (f_M_resolveOrder (some 1) (Int32.ofNat (z_tot x.2.1)) u)) fun _ s4 => f_M_prepare_137 (some 1) s4) (fun u => z_W [833, 897] z_wA3 u1 u) (fun u s v => M_rse n kd nw u C x.2.1 tc cols s v.2) (fun a v => z_snt nw pl x tc cols v.1 a v.2) n
    (fun f u hI => by
      have h3 : z_W [833, 897] z_wA7 u0 u := e2.trans (hI.mono (fun _ h => h) (by decide))
      show f_M_prepare_108 (f + 1) _ _ u = _
      rw [f_M_prepare_108, x_gI, c2 h3, sL, if_pos (by rw [x_le (by omega) (by omega)]; exact Nat.le_refl _), x_gI, c2 h3, show Int32.ofNat (z_tot x.2.1 + 1) - 1 = Int32.ofNat (z_tot x.2.1) from (by rw [Int32.ofNat_add]; exact Int32.add_sub_cancel _ _)])
    (fun f i u a1 p1 q1 hi hI hnt hP hqn => by
      have h3 : z_W [833, 897] z_wA7 u0 u := e2.trans (hI.mono (fun _ h => h) (by decide))
      have Ku := KW h3
      obtain ⟨-, sEu⟩ := Ku.2.2.1.sels
      obtain ⟨v, t1, t2, t3, t4, t5, t6⟩ := b_rsl NM H hpl Ku hp hw3 (sEu i hi).2 (sEu i hi).1 hP hqn hnt
      refine ⟨v, ?_, hI.trans t2, t2, t3, t4, t5, t6⟩
      show f_M_prepare_108 (f + 1) _ _ u = _
      rw [f_M_prepare_108, x_gI, c2 h3, if_neg (by rw [x_le (by omega) (by omega)]; omega), x_nn, t1, x_c, x_p1])
    (fun u v j t p1 q1 pp hR hIu hIv hw hk hmk hP hqp => hR.kt hw hk hmk hP hqp)
    (z_sels x) 0 0 b u1 _ 200000 rfl (Nat.zero_le _) (by omega) z_W.re e4 ch (by omega) (fun j hj => by omega)
  have h2 : z_W [833, 897] z_wA7 u0 u2 := e2.trans (r3.mono (fun _ h => h) (by decide))
  have own : (z_sels x).getD (z_tot x.2.1) (0, z_se0) = (4, x.2.2.1) := by
    unfold z_sels
    rw [List.getD_eq_getElem?_getD, List.getElem?_append_right (by rw [z_sy_len]; omega), z_sy_len, Nat.sub_self]; rfl
  have ro := r6 (z_tot x.2.1) (by omega)
  rw [own] at ro
  obtain ⟨⟨k0, ro1⟩, -⟩ := ro
  obtain ⟨u3, o1, o2, o3, o4⟩ := b_ror NM H hpl (KW h2) hp hw3 ro1 w4 hq r7
  have h3 : z_W [833, 897] z_wA7 u0 u3 := h2.trans (o2.mono (fun _ h => h) (by decide))
  refine ⟨u3, ?_, h3, KW h3, ⟨fun k hk => ?_, fun s hs => ?_, o3⟩, o4⟩
  · have r1' : f_M_prepare_108 200000 (some 1) 0 u1 = g_c (g_nn (some 1) (f_M_resolveOrder (some 1) (Int32.ofNat (z_tot x.2.1)) u2)) (fun _ s4 => f_M_prepare_137 (some 1) s4) := r1
    have e1' : f_M_prepare_87 200000 (some 1) 0 u0 = f_M_prepare_108 200000 (some 1) 0 u1 := e1
    rw [e1', r1', x_nn, o1, x_c]
  · have w : z_W [833, 897] (z_wA3 ++ [3796, 3860]) u1 u3 := (r3.mono (fun _ h => h) (by decide)).trans (o2.mono (fun _ h => h) (by decide))
    have g := e3 k hk
    exact ⟨fun y e => by rw [(w.2.2.2.2.2.2.2.2 1748 (by decide)).1]; exact g.1 y e, fun y e => by rw [(w.2.2.2.2.2.2.2.2 1812 (by decide)).1]; exact g.2 y e⟩
  · exact (r6 s hs).A (fun a h => (o2.2.2.2.2.2.2.2.2 a (by revert a; decide)).1)
end
