/-! THE TREE: where its tokens lie, of what kind they are -/
/-- things one behind the other, each within its own tokens -/
def z_ch {α : Type} (P : Nat → Nat → α → Prop) : List α → Nat → Nat → Prop
  | [], p, q => p ≤ q
  | x :: l, p, q => ∃ p1 q1, p ≤ p1 ∧ p1 ≤ q1 ∧ P p1 q1 x ∧ z_ch P l q1 q
theorem z_ch.le {α : Type} {P : Nat → Nat → α → Prop} : ∀ {l : List α} {p q : Nat}, z_ch P l p q → p ≤ q := by
  intro l
  induction l with
  | nil => intro p q h; exact h
  | cons x l ih =>
    intro p q h
    obtain ⟨p1, q1, h1, h2, -, h4⟩ := h
    have := ih h4
    omega
theorem z_ch.lo {α : Type} {P : Nat → Nat → α → Prop} {l : List α} {p p' q : Nat} (h : z_ch P l p q) (hp : p' ≤ p) : z_ch P l p' q := by
  cases l with
  | nil => exact Nat.le_trans hp h
  | cons x l =>
    obtain ⟨p1, q1, h1, h2, h3, h4⟩ := h
    exact ⟨p1, q1, Nat.le_trans hp h1, h2, h3, h4⟩
theorem z_ch.hi {α : Type} {P : Nat → Nat → α → Prop} : ∀ {l : List α} {p q q' : Nat}, z_ch P l p q → q ≤ q' → z_ch P l p q' := by
  intro l
  induction l with
  | nil => intro p q q' h hq; exact Nat.le_trans h hq
  | cons x l ih =>
    intro p q q' h hq
    obtain ⟨p1, q1, h1, h2, h3, h4⟩ := h
    exact ⟨p1, q1, h1, h2, h3, ih h4 hq⟩
theorem z_ch.mono {α : Type} {P R : Nat → Nat → α → Prop} (hPR : ∀ p q x, P p q x → R p q x) : ∀ {l : List α} {p q : Nat}, z_ch P l p q → z_ch R l p q := by
  intro l
  induction l with
  | nil => intro p q h; exact h
  | cons x l ih =>
    intro p q h
    obtain ⟨p1, q1, h1, h2, h3, h4⟩ := h
    exact ⟨p1, q1, h1, h2, hPR _ _ _ h3, ih h4⟩
/-- every one lies within -/
theorem z_ch.all {α : Type} {P : Nat → Nat → α → Prop} : ∀ {l : List α} {p q : Nat}, z_ch P l p q → ∀ x ∈ l, ∃ p1 q1, p ≤ p1 ∧ q1 ≤ q ∧ P p1 q1 x := by
  intro l
  induction l with
  | nil => intro p q _ x hx; cases hx
  | cons y l ih =>
    intro p q h x hx
    obtain ⟨p1, q1, h1, h2, h3, h4⟩ := h
    rcases List.mem_cons.mp hx with e | e
    · rw [e]; exact ⟨p1, q1, h1, h4.le, h3⟩
    · obtain ⟨p2, q2, g1, g2, g3⟩ := ih h4 x e
      exact ⟨p2, q2, by omega, g2, g3⟩
theorem z_lst_ch {α : Type} {kd : Nat → Nat} {sep : Nat} {g : Nat → α × z_P} {P : Nat → Nat → α → Prop} (hP : ∀ p q, (g p).2 = .inr q → p ≤ q ∧ P p q (g p).1) : ∀ d p q, (z_lst kd sep g d p).2 = .inr q → z_ch P (z_lst kd sep g d p).1 p q := by
  intro d
  induction d with
  | zero =>
    intro p q h
    obtain ⟨a, b⟩ := hP p q h
    exact ⟨p, q, Nat.le_refl _, a, b, Nat.le_refl _⟩
  | succ d ih =>
    intro p q h
    cases hz : (g p).2 with
    | inl y =>
      have e : z_lst kd sep g (d + 1) p = ([(g p).1], .inl y) := by rw [z_lst, hz]
      rw [e] at h
      cases h
    | inr y =>
      obtain ⟨a, b⟩ := hP p y hz
      by_cases w : kd y = sep
      · have e : z_lst kd sep g (d + 1) p = ((g p).1 :: (z_lst kd sep g d (y + 1)).1, (z_lst kd sep g d (y + 1)).2) := by rw [z_lst, hz]; simp only []; rw [if_pos w]
        rw [e] at h ⊢
        exact ⟨p, y, Nat.le_refl _, a, b, (ih (y + 1) q h).lo (by omega)⟩
      · have e : z_lst kd sep g (d + 1) p = ([(g p).1], .inr y) := by rw [z_lst, hz]; simp only []; rw [if_neg w]
        rw [e] at h ⊢
        cases h
        exact ⟨p, q, Nat.le_refl _, a, b, Nat.le_refl _⟩
def z_wop (kd : Nat → Nat) (p q : Nat) (x : Nat × Nat) : Prop := p ≤ x.2 ∧ x.2 < q ∧ ((x.1 = 0 ∧ kd x.2 = 37) ∨ (x.1 = 1 ∧ kd x.2 = 10) ∨ (x.1 = 2 ∧ kd x.2 = 36 ∧ kd (x.2 + 1) = 28 ∧ kd (x.2 + 2) = 36 ∧ x.2 + 2 < q))
def z_wex (kd : Nat → Nat) (p q : Nat) (L : z_Ex) : Prop := ∀ x ∈ L, z_wop kd p q x.2
theorem z_wop.mono {kd : Nat → Nat} {p q p' q' : Nat} {x : Nat × Nat} (h : z_wop kd p q x) (hp : p' ≤ p) (hq : q ≤ q') : z_wop kd p' q' x := by
  obtain ⟨h1, h2, h3⟩ := h
  refine ⟨by omega, by omega, ?_⟩
  rcases h3 with a | a | ⟨a, b, c, d, e⟩
  · exact Or.inl a
  · exact Or.inr (Or.inl a)
  · exact Or.inr (Or.inr ⟨a, b, c, d, by omega⟩)
theorem z_wex.mono {kd : Nat → Nat} {p q p' q' : Nat} {L : z_Ex} (h : z_wex kd p q L) (hp : p' ≤ p) (hq : q ≤ q') : z_wex kd p' q' L := fun x hx => (h x hx).mono hp hq
section
variable {kd : Nat → Nat} {vl : Nat → Int64}
theorem z_op1_w {p q : Nat} {x : Nat × Nat} (h : z_op1 kd p = .inr (x, q)) : p < q ∧ z_wop kd p q x := by
  by_cases w1 : kd p = 10
  · unfold z_op1 at h
    rw [if_pos w1] at h
    cases h
    exact ⟨by omega, Nat.le_refl _, by show p < p + 1; omega, Or.inr (Or.inl ⟨rfl, w1⟩)⟩
  · by_cases w2 : kd p = 37
    · unfold z_op1 at h
      rw [if_neg w1, if_pos w2] at h
      cases h
      exact ⟨by omega, Nat.le_refl _, by show p < p + 1; omega, Or.inl ⟨rfl, w2⟩⟩
    · obtain ⟨a, b, c, d, e⟩ := z_op1_e w1 w2 h
      rw [a, b]
      exact ⟨by omega, Nat.le_refl _, by show p < p + 3; omega, Or.inr (Or.inr ⟨rfl, c, d, e, by show p + 2 < p + 3; omega⟩)⟩
theorem z_ex_w : ∀ (d p q : Nat) (L : z_Ex), z_ex kd d p = .inr (L, q) → p ≤ q ∧ z_wex kd p q L := by
  intro d
  induction d with
  | zero =>
    intro p q L h
    cases h
    exact ⟨Nat.le_refl _, fun x hx => by cases hx⟩
  | succ d ih =>
    intro p q L h
    have step : ∀ mn : Bool, (z_bd (z_op1 kd (p + 1)) fun o p1 => z_bd (z_ex kd d p1) fun l p2 => .inr ((mn, o) :: l, p2)) = (.inr (L, q) : z_R z_Ex) → p ≤ q ∧ z_wex kd p q L := by
      intro mn h
      cases ho : z_op1 kd (p + 1) with
      | inl y => rw [ho] at h; cases h
      | inr y =>
        obtain ⟨o, p1⟩ := y
        rw [ho, z_bd_r] at h
        cases hx : z_ex kd d p1 with
        | inl z => rw [hx] at h; cases h
        | inr z =>
          obtain ⟨l, p2⟩ := z
          rw [hx, z_bd_r] at h
          cases h
          obtain ⟨a1, a2⟩ := z_op1_w ho
          obtain ⟨b1, b2⟩ := ih p1 q l hx
          refine ⟨by omega, fun x hx => ?_⟩
          rcases List.mem_cons.mp hx with e | e
          · rw [e]; exact a2.mono (by omega) b1
          · exact (b2 x e).mono (by omega) (Nat.le_refl _)
    by_cases w1 : kd p = 30
    · rw [z_ex_s true (by rw [if_pos rfl]; exact w1)] at h
      exact step true h
    · by_cases w2 : kd p = 29
      · rw [z_ex_s false (by rw [if_neg (by decide)]; exact w2)] at h
        exact step false h
      · rw [z_ex, if_neg w1, if_neg w2] at h
        cases h
        exact ⟨Nat.le_refl _, fun x hx => by cases hx⟩
theorem z_exr_w {r : z_P} {q : Nat} (h : (z_exr kd r).2 = .inr q) : ∃ p, r = .inr p ∧ p < q ∧ z_wex kd p q (z_exr kd r).1 ∧ 1 ≤ (z_exr kd r).1.length ∧ (z_exr kd r).1.length ≤ 4 ∧ ((z_exr kd r).1.getD 0 (false, 0, 0)).1 = false := by
  cases r with
  | inl y => cases h
  | inr p =>
    refine ⟨p, rfl, ?_⟩
    unfold z_exr z_expr at h ⊢
    simp only [] at h ⊢
    cases ho : z_op1 kd p with
    | inl y => rw [ho] at h; cases h
    | inr y =>
      obtain ⟨o, p1⟩ := y
      rw [ho, z_bd_r] at h
      rw [z_bd_r]
      cases hx : z_ex kd 3 p1 with
      | inl z => rw [hx] at h; cases h
      | inr z =>
        obtain ⟨l, p2⟩ := z
        rw [hx, z_bd_r] at h
        rw [z_bd_r]
        cases h
        obtain ⟨a1, a2⟩ := z_op1_w ho
        obtain ⟨b1, b2⟩ := z_ex_w 3 p1 _ l hx
        have len : ∀ (d p q : Nat) (L : z_Ex), z_ex kd d p = .inr (L, q) → L.length ≤ d := by
          intro d
          induction d with
          | zero => intro p q L h; cases h; exact Nat.le_refl _
          | succ d ih =>
            intro p q L h
            rw [z_ex] at h
            have st : ∀ mn : Bool, (z_bd (z_op1 kd (p + 1)) fun o p1 => z_bd (z_ex kd d p1) fun l p2 => .inr ((mn, o) :: l, p2)) = (.inr (L, q) : z_R z_Ex) → L.length ≤ d + 1 := by
              intro mn h
              cases ho : z_op1 kd (p + 1) with
              | inl y => rw [ho] at h; cases h
              | inr y =>
                obtain ⟨o, p1⟩ := y
                rw [ho, z_bd_r] at h
                cases hx : z_ex kd d p1 with
                | inl z => rw [hx] at h; cases h
                | inr z =>
                  obtain ⟨l, p2⟩ := z
                  rw [hx, z_bd_r] at h
                  cases h
                  have := ih p1 q l hx
                  rw [List.length_cons]; omega
            by_cases w1 : kd p = 30
            · rw [if_pos w1] at h; exact st true h
            · rw [if_neg w1] at h
              by_cases w2 : kd p = 29
              · rw [if_pos w2] at h; exact st false h
              · rw [if_neg w2] at h; cases h; exact Nat.zero_le _
        have := len 3 p1 _ l hx
        refine ⟨by omega, fun x hx => ?_, by show 1 ≤ (_ :: _).length; rw [List.length_cons]; omega, by show (_ :: _).length ≤ 4; rw [List.length_cons]; omega, rfl⟩
        rcases List.mem_cons.mp hx with e | e
        · rw [e]; exact a2.mono (Nat.le_refl _) b1
        · exact (b2 x e).mono (by omega) (Nat.le_refl _)
/-- a comparison -/
def z_wb (kd : Nat → Nat) (p q : Nat) (b : z_Bs) : Prop := z_wex kd p q b.1 ∧ z_wex kd p q b.2.2 ∧ 1 ≤ b.1.length ∧ ((b.2.1 = 9 ∧ b.2.2 = []) ∨ ((b.2.1 = 31 ∨ b.2.1 = 32 ∨ b.2.1 = 33 ∨ b.2.1 = 35) ∧ 1 ≤ b.2.2.length))
theorem z_cor_w {r : z_P} {q : Nat} (h : (z_cor kd r).2 = .inr q) : ∃ p, r = .inr p ∧ p < q ∧ z_wb kd p q (z_cor kd r).1 := by
  unfold z_cor at h ⊢
  rcases z_skr_c (kd := kd) 9 (z_exr kd r).2 with ⟨w, y, f1, f2, f3⟩ | ⟨w, f1, f2⟩
  · rw [if_pos w] at h ⊢
    rw [f3] at h
    have h' : z_ndr kd 10 (.inr (y + 1)) = .inr q := h
    obtain ⟨x1, y1, -, y2⟩ := z_ndr_ok h'
    cases y1
    obtain ⟨p, a1, a2, a3, a4, -⟩ := z_exr_w f1
    exact ⟨p, a1, by omega, a3.mono (Nat.le_refl _) (by omega), (fun x hx => by cases hx), a4, Or.inl ⟨rfl, rfl⟩⟩
  · rw [if_neg (by rw [w]; decide)] at h ⊢
    obtain ⟨p1, b1, b2, b3, b4, -⟩ := z_exr_w h
    have ho : ∃ y, (z_exr kd r).2 = .inr y ∧ (kd y = 31 ∨ kd y = 32 ∨ kd y = 33 ∨ kd y = 35) ∧ p1 = y + 1 := by
      cases hh : (z_exr kd r).2 with
      | inl y => rw [hh] at b1; cases b1
      | inr y =>
        rw [hh] at b1
        unfold z_opr at b1
        simp only [] at b1
        by_cases z : kd y = 31 ∨ kd y = 32 ∨ kd y = 33 ∨ kd y = 35
        · rw [if_pos z] at b1; cases b1; exact ⟨y, rfl, z, rfl⟩
        · rw [if_neg z] at b1; cases b1
    obtain ⟨y, c1, c2, c3⟩ := ho
    obtain ⟨p, a1, a2, a3, a4, -⟩ := z_exr_w c1
    refine ⟨p, a1, by omega, a3.mono (Nat.le_refl _) (by omega), b3.mono (by omega) (Nat.le_refl _), a4, Or.inr ⟨?_, b4⟩⟩
    show kd (z_pk (z_exr kd r).2) = 31 ∨ kd (z_pk (z_exr kd r).2) = 32 ∨ kd (z_pk (z_exr kd r).2) = 33 ∨ kd (z_pk (z_exr kd r).2) = 35
    rw [c1]
    exact c2
/-- an item -/
def z_wit (kd : Nat → Nat) (p q : Nat) (x : z_It) : Prop := z_wex kd p q x.2 ∧ ((x.1 = 0 ∧ 1 ≤ x.2.length ∧ (x.2.getD 0 (false, 0, 0)).1 = false) ∨ (x.1 = 20 ∧ x.2 = []) ∨ (21 ≤ x.1 ∧ x.1 ≤ 23 ∧ 1 ≤ x.2.length))
theorem z_itr_w {p q : Nat} (h : (z_itr kd p).2 = .inr q) : p ≤ q ∧ z_wit kd p q (z_itr kd p).1 := by
  unfold z_itr at h ⊢
  by_cases w1 : kd p = 20
  · rw [if_pos w1] at h ⊢
    obtain ⟨x1, y1, -, y2⟩ := z_ndr_ok h
    obtain ⟨x2, y3, -, y4⟩ := z_ndr_ok y1
    obtain ⟨x3, y5, -, y6⟩ := z_ndr_ok y3
    cases y5
    exact ⟨by omega, (fun x hx => by cases hx), Or.inr (Or.inl ⟨rfl, rfl⟩)⟩
  · rw [if_neg w1] at h ⊢
    by_cases w2 : 21 ≤ kd p ∧ kd p ≤ 23
    · rw [if_pos w2] at h ⊢
      obtain ⟨x1, y1, -, y2⟩ := z_ndr_ok h
      obtain ⟨p1, a1, a2, a3, a4, -⟩ := z_exr_w y1
      obtain ⟨x3, y5, -, y6⟩ := z_ndr_ok a1
      cases y5
      exact ⟨by omega, a3.mono (by omega) (by omega), Or.inr (Or.inr ⟨w2.1, w2.2, a4⟩)⟩
    · rw [if_neg w2] at h ⊢
      obtain ⟨p1, a1, a2, a3, a4, a5⟩ := z_exr_w h
      cases a1
      exact ⟨by omega, a3, Or.inl ⟨rfl, a4, a5.2⟩⟩
/-- a source -/
def z_wso (kd : Nat → Nat) (p q : Nat) (t : Nat) : Prop := t = p ∧ q = p + 2 ∧ kd t = 36 ∧ kd (t + 1) = 36
theorem z_sor_w {r : z_P} {q : Nat} (h : z_sor kd r = .inr q) : ∃ p, r = .inr p ∧ z_wso kd p q p := by
  obtain ⟨x1, y1, k1, y2⟩ := z_ndr_ok (show z_ndr kd 36 (z_ndr kd 36 r) = .inr q from h)
  obtain ⟨x2, y3, k2, y4⟩ := z_ndr_ok y1
  refine ⟨x2, y3, rfl, by omega, k2, ?_⟩
  rw [← y4]; exact k1
theorem z_sos_w {p q : Nat} (h : (z_sos kd p).2 = .inr q) : p ≤ q ∧ z_wso kd p q (z_sos kd p).1 := by
  obtain ⟨p', a1, a2⟩ := z_sor_w (show z_sor kd (.inr p) = .inr q from h)
  cases a1
  exact ⟨by have := a2.2.1; omega, a2⟩
/-- a condition -/
def z_wco (kd : Nat → Nat) (p q : Nat) (x : z_Co) : Prop := match x with
  | .inl b => z_wb kd p q b
  | .inr y => p ≤ y.1 ∧ kd y.1 = 36 ∧ kd (y.1 + 1) = 36 ∧ z_ch (z_wb kd) y.2 (y.1 + 2) q
theorem z_con_w {p q : Nat} (h : (z_con kd vl p).2 = .inr q) : p ≤ q ∧ z_wco kd p q (z_con kd vl p).1 := by
  unfold z_con at h ⊢
  by_cases w : kd p = 7
  · rw [if_pos w] at h ⊢
    have h' : z_ndr kd 27 (z_new kd vl p).2 = .inr q := h
    obtain ⟨x1, y1, -, y2⟩ := z_ndr_ok h'
    rcases z_skr_c (kd := kd) 5 (z_sor kd (z_neh kd vl p)) with ⟨w2, y, f1, f2, f3⟩ | ⟨w2, f1, f2⟩
    · rw [z_new_t f3] at y1
      obtain ⟨p1, a1, a2⟩ := z_sor_w f1
      have hp := z_neh_ok a1
      rw [z_cil_l] at y1
      have ch := z_lst_ch (P := z_wb kd) (fun p q h => by
        obtain ⟨p', b1, b2, b3⟩ := z_cor_w h
        cases b1
        exact ⟨by omega, b3⟩) 2 (y + 1) x1 y1
      have ec : (z_ner kd vl p).1 = (p1, (z_lst kd 6 (fun p => z_cor kd (.inr p)) 2 (y + 1)).1) := by
        show (z_pk (z_neh kd vl p), (z_new kd vl p).1) = _
        rw [z_new_t f3, z_cil_l, a1]; rfl
      have := ch.le
      have := a2.2.1
      refine ⟨by omega, ?_⟩
      show z_wco kd p q (.inr (z_ner kd vl p).1)
      rw [ec]
      exact ⟨by show p ≤ p1; omega, a2.2.2.1, a2.2.2.2, (ch.lo (by show p1 + 2 ≤ _; omega)).hi (by omega)⟩
    · rw [z_new_s w2] at y1
      rw [f1] at y1
      obtain ⟨p1, a1, a2⟩ := z_sor_w y1
      have hp := z_neh_ok a1
      have ec : (z_ner kd vl p).1 = (p1, []) := by
        show (z_pk (z_neh kd vl p), (z_new kd vl p).1) = _
        rw [z_new_s w2, a1]; rfl
      have := a2.2.1
      refine ⟨by omega, ?_⟩
      show z_wco kd p q (.inr (z_ner kd vl p).1)
      rw [ec]
      exact ⟨by show p ≤ p1; omega, a2.2.2.1, a2.2.2.2, by show p1 + 2 ≤ q; omega⟩
  · rw [if_neg w] at h ⊢
    obtain ⟨p', b1, b2, b3⟩ := z_cor_w h
    cases b1
    exact ⟨by omega, b3⟩
/-- a selection -/
def z_wse (kd : Nat → Nat) (p q : Nat) (x : z_Se) : Prop := x.1 = p ∧ ∃ a b, z_ch (z_wit kd) x.2.1 p a ∧ z_ch (z_wso kd) x.2.2.1 a b ∧ z_ch (z_wco kd) x.2.2.2 b q
theorem z_ser_w {p q : Nat} (h : (z_ser kd vl p).2 = .inr q) : p ≤ q ∧ z_wse kd p q (z_ser kd vl p).1 := by
  have h3 : (z_s3 kd vl p).2 = .inr q := h
  -- conditions
  have c3 : ∃ b, (z_s2 kd p).2 = .inr b ∧ z_ch (z_wco kd) (z_s3 kd vl p).1 b q := by
    unfold z_s3 at h3 ⊢
    rcases z_skr_c (kd := kd) 5 (z_s2 kd p).2 with ⟨w, y, f1, f2, f3⟩ | ⟨w, f1, f2⟩
    · rw [f3, z_opt_t] at h3 ⊢
      exact ⟨y, f1, (z_lst_ch (P := z_wco kd) (fun p q h => z_con_w h) 5 (y + 1) q h3).lo (by omega)⟩
    · rw [z_opt_f _ w, f1] at h3
      rw [z_opt_f _ w]
      exact ⟨q, h3, Nat.le_refl _⟩
  obtain ⟨b, h2, d3⟩ := c3
  have c2 : ∃ a, (z_s1 kd p).2 = .inr a ∧ z_ch (z_wso kd) (z_s2 kd p).1 a b := by
    unfold z_s2 at h2 ⊢
    rcases z_skr_c (kd := kd) 4 (z_s1 kd p).2 with ⟨w, y, f1, f2, f3⟩ | ⟨w, f1, f2⟩
    · rw [f3, z_opt_t] at h2 ⊢
      exact ⟨y, f1, (z_lst_ch (P := z_wso kd) (fun p q h => z_sos_w h) 2 (y + 1) b h2).lo (by omega)⟩
    · rw [z_opt_f _ w, f1] at h2
      rw [z_opt_f _ w]
      exact ⟨b, h2, Nat.le_refl _⟩
  obtain ⟨a, h1, d2⟩ := c2
  have c1 : z_ch (z_wit kd) (z_s1 kd p).1 p a := by
    unfold z_s1 at h1 ⊢
    cases hz : z_ndr kd 3 (.inr p) with
    | inl y => rw [hz] at h1; cases h1
    | inr y =>
      obtain ⟨x1, y1, -, y2⟩ := z_ndr_ok hz
      cases y1
      rw [hz, z_go_r] at h1
      rw [z_go_r]
      exact (z_lst_ch (P := z_wit kd) (fun p q h => z_itr_w h) 3 y a h1).lo (by omega)
  have := c1.le
  have := d2.le
  have := d3.le
  exact ⟨by omega, rfl, a, b, c1, d2, d3⟩
end
