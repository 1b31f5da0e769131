/-! THE CHECK: notes as a set -/
/-- the least of a set of notes: by number, then by place -/
def q_mn (a : Option (Nat × Nat)) (S : Nat × Nat → Prop) : Prop := match a with
  | none => ∀ y, ¬ S y
  | some y => S y ∧ ∀ z, S z → y.1 < z.1 ∨ (y.1 = z.1 ∧ y.2 ≤ z.2)
theorem q_mn.uniq {a b : Option (Nat × Nat)} {S T : Nat × Nat → Prop} (h : q_mn a S) (g : q_mn b T) (e : ∀ y, S y ↔ T y) : a = b := by
  cases a with
  | none =>
    cases b with
    | none => rfl
    | some z => exact absurd ((e z).mpr g.1) (h z)
  | some y =>
    cases b with
    | none => exact absurd ((e y).mp h.1) (g y)
    | some z =>
      have h1 := h.2 z ((e z).mpr g.1)
      have h2 := g.2 y ((e y).mp h.1)
      have e1 : y.1 = z.1 := by omega
      have e2 : y.2 = z.2 := by omega
      rw [show y = z from Prod.ext e1 e2]
theorem q_mn.nt {a : Option (Nat × Nat)} {S : Nat × Nat → Prop} (h : q_mn a S) (m p : Nat) : q_mn (z_nt a m p) (fun y => S y ∨ y = (m, p)) := by
  cases a with
  | none => exact ⟨Or.inr rfl, fun z hz => hz.elim (fun q => absurd q (h z)) (fun q => by rw [q]; exact Or.inr ⟨rfl, Nat.le_refl _⟩)⟩
  | some y =>
    by_cases w : y.1 < m ∨ (y.1 = m ∧ y.2 ≤ p)
    · have e : z_nt (some y) m p = some y := if_pos w
      rw [e]
      exact ⟨Or.inl h.1, fun z hz => hz.elim (h.2 z) (fun q => by rw [q]; exact w)⟩
    · have e : z_nt (some y) m p = some (m, p) := if_neg w
      rw [e]
      refine ⟨Or.inr rfl, fun z hz => hz.elim (fun q => ?_) (fun q => by rw [q]; exact Or.inr ⟨rfl, Nat.le_refl _⟩)⟩
      have := h.2 z q
      show m < z.1 ∨ (m = z.1 ∧ p ≤ z.2)
      omega
/-- a step that adds a set of notes -/
def q_add (g : Option (Nat × Nat) → Option (Nat × Nat)) (G : Nat × Nat → Prop) : Prop := ∀ a S, q_mn a S → q_mn (g a) (fun y => S y ∨ G y)
theorem q_mn.iff {a : Option (Nat × Nat)} {S T : Nat × Nat → Prop} (h : q_mn a S) (e : ∀ y, S y ↔ T y) : q_mn a T := by
  have : S = T := funext (fun y => propext (e y))
  rw [← this]; exact h
theorem q_add.iff {g : Option (Nat × Nat) → Option (Nat × Nat)} {G T : Nat × Nat → Prop} (h : q_add g G) (e : ∀ y, G y ↔ T y) : q_add g T := by
  have : G = T := funext (fun y => propext (e y))
  rw [← this]; exact h
theorem q_add.id : q_add (fun a => a) (fun _ => False) := fun _ _ h => h.iff (fun _ => ⟨Or.inl, fun q => q.elim (fun q => q) (fun q => q.elim)⟩)
theorem q_add.comp {f g : Option (Nat × Nat) → Option (Nat × Nat)} {F G : Nat × Nat → Prop} (hf : q_add f F) (hg : q_add g G) : q_add (fun a => g (f a)) (fun y => F y ∨ G y) := fun a S h => (hg _ _ (hf a S h)).iff (fun _ => or_assoc)
theorem q_add.ntb (m : Nat) (b : Bool) (p : Nat) : q_add (fun a => z_ntb m b a p) (fun y => b = true ∧ y = (m, p)) := fun a S h => by
  cases b with
  | false => exact (show q_mn a S from h).iff (fun _ => ⟨Or.inl, fun q => q.elim (fun q => q) (fun q => by cases q.1)⟩)
  | true => exact (h.nt m p).iff (fun _ => ⟨fun q => q.elim Or.inl (fun q => Or.inr ⟨rfl, q⟩), fun q => q.elim Or.inl (fun q => Or.inr q.2)⟩)
theorem q_add.nti2 (b : Bool) (p : Nat) : q_add (fun a => z_nti2 b a p) (fun y => b = true ∧ y = (2, p)) := q_add.ntb 2 b p
theorem q_add.fold {α : Type} {g : Option (Nat × Nat) → α → Option (Nat × Nat)} {G : α → Nat × Nat → Prop} : ∀ (l : List α), (∀ t ∈ l, q_add (fun a => g a t) (G t)) → q_add (fun a => l.foldl g a) (fun y => ∃ t ∈ l, G t y) := by
  intro l
  induction l with
  | nil => intro _ a S h; exact (show q_mn a S from h).iff (fun _ => ⟨Or.inl, fun q => q.elim (fun q => q) (fun ⟨t, q, _⟩ => by cases q)⟩)
  | cons x l ih =>
    intro h a S hS
    have h1 := h x (List.mem_cons_self ..) a S hS
    have h2 := ih (fun t ht => h t (List.mem_cons_of_mem _ ht)) _ _ h1
    refine q_mn.iff (a := (x :: l).foldl g a) h2 (fun y => ?_)
    constructor
    · rintro ((q | q) | ⟨t, q1, q2⟩)
      · exact Or.inl q
      · exact Or.inr ⟨x, List.mem_cons_self .., q⟩
      · exact Or.inr ⟨t, List.mem_cons_of_mem _ q1, q2⟩
    · rintro (q | ⟨t, q1, q2⟩)
      · exact Or.inl (Or.inl q)
      · rcases List.mem_cons.mp q1 with e | e
        · rw [e] at q2; exact Or.inl (Or.inr q2)
        · exact Or.inr ⟨t, e, q2⟩
theorem q_add.lp {g : Option (Nat × Nat) → Nat → Option (Nat × Nat)} {G : Nat → Nat × Nat → Prop} (h : ∀ t, q_add (fun a => g a t) (G t)) : ∀ d i, q_add (fun a => z_lp g d i a) (fun y => ∃ t, i ≤ t ∧ t < i + d ∧ G t y) := by
  intro d
  induction d with
  | zero => intro i a S hS; exact (show q_mn a S from hS).iff (fun _ => ⟨Or.inl, fun q => q.elim (fun q => q) (fun ⟨t, q1, q2, _⟩ => by omega)⟩)
  | succ d ih =>
    intro i a S hS
    have h2 := ih (i + 1) _ _ (h i a S hS)
    refine q_mn.iff (a := z_lp g (d + 1) i a) h2 (fun y => ?_)
    constructor
    · rintro ((q | q) | ⟨t, q1, q2, q3⟩)
      · exact Or.inl q
      · exact Or.inr ⟨i, Nat.le_refl _, by omega, q⟩
      · exact Or.inr ⟨t, by omega, by omega, q3⟩
    · rintro (q | ⟨t, q1, q2, q3⟩)
      · exact Or.inl (Or.inl q)
      · by_cases e : t = i
        · rw [e] at q3; exact Or.inl (Or.inr q3)
        · exact Or.inr ⟨t, by omega, by omega, q3⟩
/-- the notes of a bad column within an expression -/
theorem q_add.xnt (bad : Nat → Bool) (pl : Nat → Nat) (L : z_Ex) : q_add (fun a => z_xnt bad pl a L) (fun y => ∃ e ∈ L, e.2.1 = 2 ∧ bad e.2.2 = true ∧ y = (2, pl e.2.2)) := by
  refine (q_add.fold (g := fun a x => z_nti2 (decide (x.2.1 = 2) && bad x.2.2) a (pl x.2.2)) (G := fun x y => (decide (x.2.1 = 2) && bad x.2.2) = true ∧ y = (2, pl x.2.2)) L (fun t _ => q_add.nti2 _ _)).iff (fun y => ?_)
  constructor
  · rintro ⟨t, q1, q2, q3⟩
    have := (Bool.and_eq_true _ _).mp q2
    exact ⟨t, q1, of_decide_eq_true this.1, this.2, q3⟩
  · rintro ⟨t, q1, q2, q3, q4⟩
    exact ⟨t, q1, (Bool.and_eq_true _ _).mpr ⟨decide_eq_true q2, q3⟩, q4⟩
theorem q_add.bnt (bad : Nat → Bool) (pl : Nat → Nat) (b : z_Bs) : q_add (fun a => z_bnt bad pl a b) (fun y => ∃ e ∈ b.1 ++ b.2.2, e.2.1 = 2 ∧ bad e.2.2 = true ∧ y = (2, pl e.2.2)) := by
  refine ((q_add.xnt bad pl b.1).comp (q_add.xnt bad pl b.2.2)).iff (fun y => ?_)
  constructor
  · rintro (⟨e, q1, q2⟩ | ⟨e, q1, q2⟩)
    · exact ⟨e, List.mem_append_left _ q1, q2⟩
    · exact ⟨e, List.mem_append_right _ q1, q2⟩
  · rintro ⟨e, q1, q2⟩
    rcases List.mem_append.mp q1 with q | q
    · exact Or.inl ⟨e, q, q2⟩
    · exact Or.inr ⟨e, q, q2⟩
