/-! THE TREE: parts and queries -/
def z_wcl (kd : Nat → Nat) (p q : Nat) (t : Nat) : Prop := t = p ∧ q = p + 1 ∧ kd t = 36
def z_wsr (kd : Nat → Nat) (p q : Nat) (x : Option (Bool × Nat)) : Prop := match x with
  | none => p ≤ q
  | some y => p ≤ y.2 ∧ kd (y.2 + 3) = 36 ∧ kd (y.2 + 5) = 36 ∧ y.2 + 6 ≤ q
def z_wcy (kd : Nat → Nat) (p q : Nat) (x : Option Nat) : Prop := match x with
  | none => p ≤ q
  | some y => p ≤ y ∧ kd y = 36 ∧ kd (y + 2) = 36 ∧ y + 3 ≤ q
def z_wpa (kd : Nat → Nat) (p q : Nat) (x : z_Pa) : Prop := x.1 = p ∧ kd p = 36 ∧ ∃ a b d, z_ch (z_wcl kd) x.2.1 (p + 1) a ∧ z_ch (z_wse kd) x.2.2.1 a b ∧ z_wsr kd b d x.2.2.2.2.1 ∧ z_wcy kd d q x.2.2.2.2.2 ∧ 1 ≤ x.2.1.length ∧ x.2.2.2.1.length + 1 = x.2.2.1.length
def z_wor (kd : Nat → Nat) (p q : Nat) (t : Nat) : Prop := t = p ∧ q = p + 3 ∧ kd t = 36 ∧ kd (t + 2) = 36
def z_wod (kd : Nat → Nat) (p q : Nat) (x : Option (Nat × List Nat)) : Prop := match x with
  | none => p ≤ q
  | some y => p ≤ y.1 ∧ kd y.1 = 24 ∧ z_ch (z_wor kd) y.2 (y.1 + 1) q ∧ 1 ≤ y.2.length
def z_wqu (kd : Nat → Nat) (q : Nat) (x : z_Qu) : Prop := ∃ a b, z_ch (z_wpa kd) x.2.1 0 a ∧ z_wse kd a b x.2.2.1 ∧ a ≤ b ∧ z_wod kd b q x.2.2.2 ∧ kd q = 38
section
variable {kd : Nat → Nat} {vl : Nat → Int64}
theorem z_lst_1 {α : Type} {sep : Nat} {g : Nat → α × z_P} : ∀ d p, 1 ≤ (z_lst kd sep g d p).1.length := by
  intro d p
  cases d with
  | zero => exact Nat.le_refl _
  | succ d =>
    rw [z_lst]
    split
    · exact Nat.le_refl _
    · split
      · show 1 ≤ (_ :: _).length
        rw [List.length_cons]; omega
      · exact Nat.le_refl _
theorem z_uni_w : ∀ (d p q : Nat), (z_uni kd vl d p).2 = .inr q → z_ch (z_wse kd) (z_uni kd vl d p).1.1 p q ∧ (z_uni kd vl d p).1.2.length + 1 = (z_uni kd vl d p).1.1.length := by
  intro d
  induction d with
  | zero =>
    intro p q h
    obtain ⟨a, b⟩ := z_ser_w (show (z_ser kd vl p).2 = .inr q from h)
    exact ⟨⟨p, q, Nat.le_refl _, a, b, Nat.le_refl _⟩, rfl⟩
  | succ d ih =>
    intro p q h
    cases hz : (z_ser kd vl p).2 with
    | inl y =>
      have e : z_uni kd vl (d + 1) p = (([(z_ser kd vl p).1], []), .inl y) := by rw [z_uni, hz]
      rw [e] at h; cases h
    | inr y =>
      obtain ⟨a, b⟩ := z_ser_w hz
      by_cases w : kd y = 11
      · have key : ∀ t fl, y + 1 ≤ t → fl.length = (z_uni kd vl d t).1.2.length + 1 → z_uni kd vl (d + 1) p = (((z_ser kd vl p).1 :: (z_uni kd vl d t).1.1, fl), (z_uni kd vl d t).2) → z_ch (z_wse kd) (z_uni kd vl (d + 1) p).1.1 p q ∧ (z_uni kd vl (d + 1) p).1.2.length + 1 = (z_uni kd vl (d + 1) p).1.1.length := by
          intro t fl ht hl e
          rw [e] at h ⊢
          exact ⟨⟨p, y, Nat.le_refl _, a, b, (ih t q h).1.lo (by omega)⟩, by have := (ih t q h).2; show fl.length + 1 = (_ :: _).length; rw [List.length_cons]; omega⟩
        by_cases z : kd (y + 1) = 12
        · refine key (y + 2) (true :: (z_uni kd vl d (y + 2)).1.2) (by omega) rfl ?_
          rw [z_uni, hz]; simp only []; rw [if_pos w, if_pos z]
        · refine key (y + 1) (false :: (z_uni kd vl d (y + 1)).1.2) (by omega) rfl ?_
          rw [z_uni, hz]; simp only []; rw [if_pos w, if_neg z]
      · have e : z_uni kd vl (d + 1) p = (([(z_ser kd vl p).1], []), .inr y) := by rw [z_uni, hz]; simp only []; rw [if_neg w]
        rw [e] at h ⊢
        cases h
        exact ⟨⟨p, q, Nat.le_refl _, a, b, Nat.le_refl _⟩, rfl⟩
theorem z_sea_w {r : z_P} {q : Nat} (h : (z_sea kd r).2 = .inr q) : ∃ p, r = .inr p ∧ z_wsr kd p q (z_sea kd r).1 := by
  rcases z_skr_c (kd := kd) 13 r with ⟨w, y, f1, f2, f3⟩ | ⟨w, f1, f2⟩
  · rw [z_sea_t f3] at h ⊢
    obtain ⟨a6, b6, k6, v6⟩ := z_ndr_ok h
    obtain ⟨a5, b5, k5, v5⟩ := z_ndr_ok b6
    obtain ⟨a4, b4, k4, v4⟩ := z_ndr_ok b5
    obtain ⟨a3, b3, k3, v3⟩ := z_ndr_ok b4
    obtain ⟨a2, b2, k2, v2⟩ := z_ndr_ok b3
    have ea : a2 = y + 1 + 1 := by
      by_cases z : kd (y + 1) = 15
      · rw [if_pos z] at b2; cases b2; rfl
      · rw [if_neg z] at b2
        obtain ⟨z1, z2, -, z3⟩ := z_ndr_ok b2
        cases z2
        exact z3
    refine ⟨y, f1, by show y ≤ y + 1; omega, ?_, ?_, by show y + 1 + 6 ≤ q; omega⟩
    · show kd (y + 1 + 3) = 36
      rw [show y + 1 + 3 = a4 by omega]; exact k4
    · show kd (y + 1 + 5) = 36
      rw [show y + 1 + 5 = a6 by omega]; exact k6
  · rw [z_sea_f w] at h ⊢
    exact ⟨q, h, Nat.le_refl _⟩
theorem z_cyc_w {r : z_P} {q : Nat} (h : (z_cyc kd r).2 = .inr q) : ∃ p, r = .inr p ∧ z_wcy kd p q (z_cyc kd r).1 := by
  rcases z_skr_c (kd := kd) 19 r with ⟨w, y, f1, f2, f3⟩ | ⟨w, f1, f2⟩
  · rw [z_cyc_t f3] at h ⊢
    obtain ⟨a6, b6, k6, v6⟩ := z_ndr_ok h
    obtain ⟨a5, b5, k5, v5⟩ := z_ndr_ok b6
    obtain ⟨a4, b4, k4, v4⟩ := z_ndr_ok b5
    cases b4
    refine ⟨y, f1, by show y ≤ y + 1; omega, k4, ?_, by show y + 1 + 3 ≤ q; omega⟩
    show kd (y + 1 + 2) = 36
    rw [show y + 1 + 2 = a6 by omega]; exact k6
  · rw [z_cyc_f w] at h ⊢
    exact ⟨q, h, Nat.le_refl _⟩
theorem z_par_w {p q : Nat} (h : (z_par kd vl p).2 = .inr q) : p ≤ q ∧ z_wpa kd p q (z_par kd vl p).1 := by
  have h' : (z_cyc kd (z_p3 kd vl p).2).2 = .inr q := h
  obtain ⟨d, c1, c2⟩ := z_cyc_w h'
  have c1' : (z_sea kd (z_ndr kd 27 (z_p2 kd vl p).2)).2 = .inr d := c1
  obtain ⟨b0, d1, d2⟩ := z_sea_w c1'
  obtain ⟨b, e1, -, e3⟩ := z_ndr_ok d1
  have hz : ∃ a0, z_ndr kd 26 (z_ndr kd 2 (z_ndr kd 27 (z_p1 kd p).2)) = .inr a0 ∧ z_ch (z_wse kd) (z_p2 kd vl p).1.1 a0 b ∧ (z_p2 kd vl p).1.2.length + 1 = (z_p2 kd vl p).1.1.length := by
    unfold z_p2 at e1 ⊢
    cases hh : z_ndr kd 26 (z_ndr kd 2 (z_ndr kd 27 (z_p1 kd p).2)) with
    | inl y => rw [hh] at e1; cases e1
    | inr y =>
      rw [hh] at e1
      obtain ⟨x1, x2⟩ := z_uni_w 3 y b e1
      exact ⟨y, rfl, x1, x2⟩
  obtain ⟨a0, f1, f2, f3⟩ := hz
  obtain ⟨x1, y1, -, y2⟩ := z_ndr_ok f1
  obtain ⟨x2, y3, -, y4⟩ := z_ndr_ok y1
  obtain ⟨a, y5, -, y6⟩ := z_ndr_ok y3
  have hc : kd p = 36 ∧ z_ch (z_wcl kd) (z_p1 kd p).1 (p + 1) a ∧ 1 ≤ (z_p1 kd p).1.length := by
    unfold z_p1 at y5 ⊢
    cases hh : z_ndr kd 26 (z_ndr kd 36 (.inr p)) with
    | inl y => rw [hh] at y5; cases y5
    | inr y =>
      obtain ⟨w1, z1, -, z2⟩ := z_ndr_ok hh
      obtain ⟨w2, z3, z4, z5⟩ := z_ndr_ok z1
      cases z3
      rw [hh, z_go_r] at y5
      rw [z_go_r]
      refine ⟨z4, (z_lst_ch (P := z_wcl kd) (fun p q h => ?_) 2 y a y5).lo (by omega), z_lst_1 2 y⟩
      obtain ⟨w3, z6, z7, z8⟩ := z_ndr_ok (show z_ndr kd 36 (.inr p) = .inr q from h)
      cases z6
      exact ⟨by omega, rfl, z8, z7⟩
  obtain ⟨g1, g2, g3⟩ := hc
  have l1 := g2.le
  have l2 := f2.le
  have l3 : b0 ≤ d := by
    revert d2
    cases (z_sea kd (z_ndr kd 27 (z_p2 kd vl p).2)).1 with
    | none => intro d2; exact d2
    | some y => intro d2; have := d2.1; have := d2.2.2.2; omega
  have l4 : d ≤ q := by
    revert c2
    cases (z_cyc kd (z_p3 kd vl p).2).1 with
    | none => intro c2; exact c2
    | some y => intro c2; have := c2.1; have := c2.2.2.2; omega
  exact ⟨by omega, rfl, g1, a, b0, d, g2, (f2.lo (by omega)).hi (by omega), d2, c2, g3, f3⟩
theorem z_qry_w (h : z_qed kd vl = none) : ∃ q, z_wqu kd q (z_qry kd vl) ∧ z_rr kd vl = .inr q := by
  have h' : z_w4 kd (z_rr kd vl) = none := h
  cases hr : z_rr kd vl with
  | inl y => rw [hr] at h'; cases h'
  | inr q =>
    rw [hr] at h'
    have k38 : kd q = 38 := by
      by_cases w : kd q = 38
      · exact w
      · unfold z_w4 at h'; simp only [] at h'; rw [if_neg w] at h'; cases h'
    refine ⟨q, ?_, rfl⟩
    have hr3 : (z_w3 kd (z_w2 kd vl (z_w1 kd vl).2).2).2 = .inr q := hr
    have c3 : ∃ b, (z_w2 kd vl (z_w1 kd vl).2).2 = .inr b ∧ z_wod kd b q (z_w3 kd (z_w2 kd vl (z_w1 kd vl).2).2).1 := by
      cases hh : (z_w2 kd vl (z_w1 kd vl).2).2 with
      | inl y => rw [hh] at hr3; cases hr3
      | inr b =>
        refine ⟨b, rfl, ?_⟩
        rw [hh] at hr3
        unfold z_w3 at hr3 ⊢
        simp only [] at hr3 ⊢
        by_cases w : kd b = 24
        · rw [if_pos w] at hr3 ⊢
          have hr4 : (z_ors kd b).2 = .inr q := hr3
          show b ≤ b ∧ kd b = 24 ∧ z_ch (z_wor kd) (z_ors kd b).1 (b + 1) q ∧ 1 ≤ (z_ors kd b).1.length
          unfold z_ors at hr4 ⊢
          cases hz : z_ndr kd 17 (.inr (b + 1)) with
          | inl y => rw [hz] at hr4; cases hr4
          | inr y =>
            obtain ⟨w1, z1, -, z2⟩ := z_ndr_ok hz
            cases z1
            rw [hz, z_go_r] at hr4
            rw [z_go_r]
            refine ⟨Nat.le_refl _, w, (z_lst_ch (P := z_wor kd) (fun p q h => ?_) 1 y q hr4).lo (by omega), z_lst_1 1 y⟩
            obtain ⟨a1, b1, k1, v1⟩ := z_ndr_ok (show z_ndr kd 36 (z_ndr kd 28 (z_ndr kd 36 (.inr p))) = .inr q from h)
            obtain ⟨a2, b2, k2, v2⟩ := z_ndr_ok b1
            obtain ⟨a3, b3, k3, v3⟩ := z_ndr_ok b2
            cases b3
            refine ⟨by omega, rfl, by omega, k3, ?_⟩
            show kd (p + 2) = 36
            rw [show p + 2 = a1 by omega]; exact k1
        · rw [if_neg w] at hr3 ⊢
          cases hr3
          exact Nat.le_refl _
    obtain ⟨b, e2, d3⟩ := c3
    have c2 : ∃ a, (z_w1 kd vl).2 = .inr a ∧ a ≤ b ∧ z_wse kd a b (z_w2 kd vl (z_w1 kd vl).2).1 := by
      cases hh : (z_w1 kd vl).2 with
      | inl y => rw [hh] at e2; cases e2
      | inr a =>
        rw [hh] at e2
        obtain ⟨x1, x2⟩ := z_ser_w (show (z_ser kd vl a).2 = .inr b from e2)
        exact ⟨a, rfl, x1, x2⟩
    obtain ⟨a, e1, l1, d2⟩ := c2
    have c1 : z_ch (z_wpa kd) (z_w1 kd vl).1 0 a := by
      unfold z_w1 at e1 ⊢
      by_cases w : kd 0 = 0
      · rw [if_pos w] at e1 ⊢
        exact (z_lst_ch (P := z_wpa kd) (fun p q h => z_par_w h) 3 _ a e1).lo (Nat.zero_le _)
      · rw [if_neg w] at e1 ⊢
        exact Nat.zero_le _
    exact ⟨a, b, c1, d2, l1, d3, k38⟩
end
