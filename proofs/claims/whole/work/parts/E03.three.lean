/-! RUNNING: both ways of sorting are one -/
def r_is3 (x : Int32) : Prop := x = -1 ∨ x = 0 ∨ x = 1
theorem r_c643 (x y : Int64) : r_is3 (r_c64 x y) := by
  unfold r_c64
  split
  · split
    · exact Or.inr (Or.inl rfl)
    · exact Or.inr (Or.inr rfl)
  · exact Or.inl rfl
theorem r_ck3 (x y : Int64) : r_is3 (r_ck x y) := r_c643 _ _
theorem r_cn3 (x y : Nat) : r_is3 (r_cn x y) := by
  unfold r_cn
  split
  · split
    · exact Or.inr (Or.inl rfl)
    · exact Or.inr (Or.inr rfl)
  · exact Or.inl rfl
theorem r_lx3 (c : Nat) : ∀ (a b : r_Row) (r : Int32), r_is3 r → r_is3 (r_lx c a b r) := by
  intro a
  induction a with
  | nil => intro b r h; cases b <;> exact h
  | cons x a ih =>
    intro b r h
    cases b with
    | nil => exact h
    | cons y b =>
      show r_is3 (if r_ck (x c) (y c) = 0 then r_lx c a b r else r_ck (x c) (y c))
      split
      · exact ih b r h
      · exact r_ck3 _ _
theorem r_ct3 (X : r_Pt) (a b : r_Row) : r_is3 (r_ct X a b) := by
  unfold r_ct
  cases X.2.1 with
  | none => exact Or.inr (Or.inl rfl)
  | some z =>
    obtain ⟨br, c⟩ := z
    cases br with
    | true =>
      show r_is3 (if r_cn a.length b.length = 0 then r_ck (r_hd a c) (r_hd b c) else r_cn a.length b.length)
      split
      · exact r_ck3 _ _
      · exact r_cn3 _ _
    | false =>
      show r_is3 (r_dg c (max a.length b.length) a b (r_cn a.length b.length))
      rw [r_dg_lx]
      exact r_lx3 c _ _ _ (r_cn3 _ _)
theorem r_f03 (g : Nat → Int32) (e : Int32) (hg : ∀ i, r_is3 (g i)) (he : r_is3 e) : ∀ (d i : Nat), r_is3 (r_f0 g e d i) := by
  intro d
  induction d with
  | zero => intro i; exact he
  | succ d ih =>
    intro i
    rw [r_f0]
    split
    · exact ih (i + 1)
    · exact hg i
theorem r_ckey3 (X : r_Pt) (a b : Int64 ⊕ r_Row) : r_is3 (r_ckey X a b) := by
  cases a with
  | inl x => cases b with
    | inl y => exact r_ck3 x y
    | inr y => exact Or.inr (Or.inl rfl)
  | inr x => cases b with
    | inl y => exact Or.inr (Or.inl rfl)
    | inr y => exact r_ct3 X x y
theorem r_car3 (wd n : Nat) (XK : Nat → r_Pt) (a b : r_An) : r_is3 (r_car wd n XK a b) := r_f03 _ _ (fun _ => r_ckey3 _ _ _) (r_f03 _ _ (fun _ => r_ck3 _ _) (Or.inr (Or.inl rfl)) _ _) _ _
/-- new before old: old behind new -/
theorem r_car_lt (wd n : Nat) (XK : Nat → r_Pt) (a b : r_An) : decide (0 < r_car wd n XK b a) = decide (r_car wd n XK a b < 0) := by
  rw [r_car_n wd n XK a b]
  rcases r_car3 wd n XK a b with h | h | h <;> rw [h] <;> decide
