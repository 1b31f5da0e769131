/-! RUNNING: trails from the first on; comparing the other way round -/
def r_lx (c : Nat) : r_Row → r_Row → Int32 → Int32
  | x :: s, y :: t, r => if r_ck (x c) (y c) = 0 then r_lx c s t r else r_ck (x c) (y c)
  | _, _, r => r
theorem r_lx_app (c : Nat) (x y : Nat → Int64) : ∀ (p s : r_Row) (r : Int32), p.length = s.length → r_lx c (p ++ [x]) (s ++ [y]) r = r_lx c p s (if ¬ r_ck (x c) (y c) = 0 then r_ck (x c) (y c) else r) := by
  intro p
  induction p with
  | nil =>
    intro s r h
    cases s with
    | nil =>
      show (if r_ck (x c) (y c) = 0 then r else r_ck (x c) (y c)) = (if ¬ r_ck (x c) (y c) = 0 then r_ck (x c) (y c) else r)
      by_cases e : r_ck (x c) (y c) = 0
      · rw [if_pos e, if_neg (fun q => q e)]
      · rw [if_neg e, if_pos e]
    | cons _ _ => cases h
  | cons a p ih =>
    intro s r h
    cases s with
    | nil => cases h
    | cons b s =>
      rw [List.length_cons, List.length_cons] at h
      show (if r_ck (a c) (b c) = 0 then r_lx c (p ++ [x]) (s ++ [y]) r else r_ck (a c) (b c)) = (if r_ck (a c) (b c) = 0 then r_lx c p s _ else r_ck (a c) (b c))
      rw [ih s r (by omega)]
theorem r_lx_more (c : Nat) : ∀ (p s q q' : r_Row) (r : Int32), p.length = s.length → (q = [] ∨ q' = []) → r_lx c (p ++ q) (s ++ q') r = r_lx c p s r := by
  intro p
  induction p with
  | nil =>
    intro s q q' r h e
    cases s with
    | nil =>
      rcases e with e | e
      · rw [e]
        rfl
      · rw [e]
        cases q <;> rfl
    | cons _ _ => cases h
  | cons a p ih =>
    intro s q q' r h e
    cases s with
    | nil => cases h
    | cons b s =>
      rw [List.length_cons, List.length_cons] at h
      show (if r_ck (a c) (b c) = 0 then r_lx c (p ++ q) (s ++ q') r else r_ck (a c) (b c)) = (if r_ck (a c) (b c) = 0 then r_lx c p s r else r_ck (a c) (b c))
      rw [ih s q q' r (by omega) e]
theorem r_dg_eq (c : Nat) : ∀ (L : Nat) (a b : r_Row) (r : Int32), a.length = L → b.length = L → r_dg c L a b r = r_lx c a.reverse b.reverse r := by
  intro L
  induction L with
  | zero =>
    intro a b r ha hb
    rw [List.eq_nil_of_length_eq_zero ha, List.eq_nil_of_length_eq_zero hb]
    rfl
  | succ L ih =>
    intro a b r ha hb
    cases a with
    | nil => cases ha
    | cons x a =>
    cases b with
    | nil => cases hb
    | cons y b =>
      have ha' : a.length = L := by rw [List.length_cons] at ha; omega
      have hb' : b.length = L := by rw [List.length_cons] at hb; omega
      rw [r_dg, if_pos ha, if_pos hb, List.reverse_cons, List.reverse_cons, r_lx_app _ _ _ _ _ _ (by rw [List.length_reverse, List.length_reverse, ha', hb'])]
      show r_dg c L a b (if (x :: a).length = L + 1 ∧ (y :: b).length = L + 1 ∧ ¬ r_ck (x c) (y c) = 0 then r_ck (x c) (y c) else r) = _
      rw [ih a b _ ha' hb']
      congr 1
      by_cases e : r_ck (x c) (y c) = 0
      · rw [if_neg (fun q => q.2.2 e), if_neg (fun q => q e)]
      · rw [if_pos ⟨ha, hb, e⟩, if_pos e]
theorem r_dg_a (c : Nat) : ∀ (d : Nat) (a b : r_Row) (r : Int32), a.length = b.length + d → r_dg c (b.length + d) a b r = r_lx c a.reverse b.reverse r := by
  intro d
  induction d with
  | zero => intro a b r h; exact r_dg_eq c _ a b r h rfl
  | succ d ih =>
    intro a b r h
    cases a with
    | nil => rw [List.length_nil] at h; omega
    | cons x a =>
      have ha : a.length = b.length + d := by rw [List.length_cons] at h; omega
      rw [show b.length + (d + 1) = (b.length + d) + 1 from rfl, r_dg, if_pos (by rw [h]; rfl), if_neg (by omega), if_neg (fun q => by have := q.2.1; omega)]
      show r_dg c (b.length + d) a b r = _
      rw [ih a b r ha, List.reverse_cons]
      have sp : a.reverse = a.reverse.take b.length ++ a.reverse.drop b.length := (List.take_append_drop _ _).symm
      have l1 : (a.reverse.take b.length).length = b.reverse.length := by rw [List.length_take, List.length_reverse, List.length_reverse]; omega
      have e1 := r_lx_more c (a.reverse.take b.length) b.reverse (a.reverse.drop b.length) [] r l1 (Or.inr rfl)
      have e2 := r_lx_more c (a.reverse.take b.length) b.reverse (a.reverse.drop b.length ++ [x]) [] r l1 (Or.inr rfl)
      rw [← List.append_assoc, ← sp] at e2
      rw [← sp] at e1
      rw [List.append_nil] at e1 e2
      rw [e1, e2]
theorem r_dg_b (c : Nat) : ∀ (d : Nat) (a b : r_Row) (r : Int32), b.length = a.length + d → r_dg c (a.length + d) a b r = r_lx c a.reverse b.reverse r := by
  intro d
  induction d with
  | zero => intro a b r h; exact r_dg_eq c _ a b r rfl h
  | succ d ih =>
    intro a b r h
    cases b with
    | nil => rw [List.length_nil] at h; omega
    | cons y b =>
      have hb : b.length = a.length + d := by rw [List.length_cons] at h; omega
      rw [show a.length + (d + 1) = (a.length + d) + 1 from rfl, r_dg, if_neg (by omega), if_pos (by rw [h]; rfl), if_neg (fun q => by have := q.1; omega)]
      show r_dg c (a.length + d) a b r = _
      rw [ih a b r hb, List.reverse_cons]
      have sp : b.reverse = b.reverse.take a.length ++ b.reverse.drop a.length := (List.take_append_drop _ _).symm
      have l1 : a.reverse.length = (b.reverse.take a.length).length := by rw [List.length_take, List.length_reverse, List.length_reverse]; omega
      have e1 := r_lx_more c a.reverse (b.reverse.take a.length) [] (b.reverse.drop a.length) r l1 (Or.inl rfl)
      have e2 := r_lx_more c a.reverse (b.reverse.take a.length) [] (b.reverse.drop a.length ++ [y]) r l1 (Or.inl rfl)
      rw [← List.append_assoc, ← sp] at e2
      rw [← sp] at e1
      rw [List.append_nil] at e1 e2
      rw [e1, e2]
/-- DEPTH: from the first on -/
theorem r_dg_lx (c : Nat) (a b : r_Row) (r : Int32) : r_dg c (max a.length b.length) a b r = r_lx c a.reverse b.reverse r := by
  by_cases h : b.length ≤ a.length
  · rw [Nat.max_eq_left h]
    have := r_dg_a c (a.length - b.length) a b r (by omega)
    rw [show b.length + (a.length - b.length) = a.length by omega] at this
    exact this
  · rw [Nat.max_eq_right (by omega)]
    have := r_dg_b c (b.length - a.length) a b r (by omega)
    rw [show a.length + (b.length - a.length) = b.length by omega] at this
    exact this
/-- the other way round -/
theorem r_c64_n (x y : Int64) : r_c64 y x = - r_c64 x y := by
  unfold r_c64
  by_cases a : y ≤ x
  · by_cases b : x ≤ y
    · have e : x = y := Int64.le_antisymm b a
      rw [if_pos a, if_pos b, if_pos e, if_pos e.symm]; rfl
    · have ne : ¬ x = y := fun e => b (by rw [e]; exact Int64.le_refl _)
      rw [if_pos a, if_neg b, if_neg ne]
  · have b : x ≤ y := by
      rw [Int64.le_iff_toInt_le] at a ⊢
      omega
    have ne : ¬ y = x := fun e => a (by rw [e]; exact Int64.le_refl _)
    rw [if_neg a, if_pos b, if_neg ne]; rfl
theorem r_ck_n (x y : Int64) : r_ck y x = - r_ck x y := r_c64_n _ _
theorem r_cn_n (x y : Nat) : r_cn y x = - r_cn x y := by
  unfold r_cn
  by_cases a : y ≤ x
  · by_cases b : x ≤ y
    · have e : x = y := by omega
      rw [if_pos a, if_pos b, if_pos e, if_pos e.symm]; rfl
    · rw [if_pos a, if_neg b, if_neg (by omega)]
  · rw [if_neg a, if_pos (by omega), if_neg (by omega)]; rfl
theorem z_n0 : (0 : Int32) = -0 := by decide
theorem z_neg0 (x : Int32) : (-x = 0) = (x = 0) := by
  refine propext ⟨fun h => ?_, fun h => by rw [h]; rfl⟩
  have := congrArg (fun z => -z) h
  simpa using this
theorem r_lx_n (c : Nat) : ∀ (a b : r_Row) (r : Int32), r_lx c b a (-r) = - r_lx c a b r := by
  intro a
  induction a with
  | nil => intro b r; cases b <;> rfl
  | cons x a ih =>
    intro b r
    cases b with
    | nil => rfl
    | cons y b =>
      show (if r_ck (y c) (x c) = 0 then r_lx c b a (-r) else r_ck (y c) (x c)) = - (if r_ck (x c) (y c) = 0 then r_lx c a b r else r_ck (x c) (y c))
      have e := r_ck_n (x c) (y c)
      by_cases z : r_ck (x c) (y c) = 0
      · rw [if_pos (show r_ck (y c) (x c) = 0 from by rw [e, z]; rfl), if_pos z, ih]
      · rw [if_neg (show ¬ r_ck (y c) (x c) = 0 from by rw [e]; intro q; rw [z_neg0] at q; exact z q), if_neg z, e]
theorem r_ct_n (X : r_Pt) (a b : r_Row) : r_ct X b a = - r_ct X a b := by
  unfold r_ct
  cases X.2.1 with
  | none => exact z_n0
  | some z =>
    obtain ⟨br, c⟩ := z
    cases br with
    | true =>
      show (if r_cn b.length a.length = 0 then r_ck (r_hd b c) (r_hd a c) else r_cn b.length a.length) = - (if r_cn a.length b.length = 0 then r_ck (r_hd a c) (r_hd b c) else r_cn a.length b.length)
      have e := r_cn_n a.length b.length
      by_cases z : r_cn a.length b.length = 0
      · rw [if_pos (show r_cn b.length a.length = 0 from by rw [e, z]; rfl), if_pos z, r_ck_n]
      · rw [if_neg (show ¬ r_cn b.length a.length = 0 from by rw [e]; intro q; rw [z_neg0] at q; exact z q), if_neg z, e]
    | false =>
      show r_dg c (max b.length a.length) b a (r_cn b.length a.length) = - r_dg c (max a.length b.length) a b (r_cn a.length b.length)
      rw [r_dg_lx, r_dg_lx, r_cn_n, r_lx_n]
theorem r_f0_n (g h : Nat → Int32) (e e' : Int32) (hg : ∀ i, h i = - g i) (he : e' = - e) : ∀ (d i : Nat), r_f0 h e' d i = - r_f0 g e d i := by
  intro d
  induction d with
  | zero => intro i; exact he
  | succ d ih =>
    intro i
    rw [r_f0, r_f0, hg i]
    by_cases z : g i = 0
    · rw [if_pos (show - g i = 0 from by rw [z]; rfl), if_pos z, ih]
    · rw [if_neg (show ¬ - g i = 0 from by rw [z_neg0]; exact z), if_neg z]
theorem r_ckey_n (X : r_Pt) (a b : Int64 ⊕ r_Row) : r_ckey X b a = - r_ckey X a b := by
  cases a with
  | inl x => cases b with
    | inl y => exact r_ck_n x y
    | inr y => exact z_n0
  | inr x => cases b with
    | inl y => exact z_n0
    | inr y => exact r_ct_n X x y
theorem r_car_n (wd n : Nat) (XK : Nat → r_Pt) (a b : r_An) : r_car wd n XK b a = - r_car wd n XK a b := by
  unfold r_car
  exact r_f0_n (fun k => r_ckey (XK k) (a.2.getD k (.inl 0)) (b.2.getD k (.inl 0))) _ _ _ (fun k => r_ckey_n _ _ _) (r_f0_n (fun j => r_ck (a.1 j) (b.1 j)) _ 0 0 (fun j => r_ck_n _ _) z_n0 _ _) _ _
