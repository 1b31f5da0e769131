/-! LOOPS OF THE READER: things with a token between -/
def z_lst {α : Type} (kd : Nat → Nat) (sep : Nat) (g : Nat → α × z_P) : Nat → Nat → List α × z_P
  | 0, p => ([(g p).1], (g p).2)
  | d + 1, p => match (g p).2 with
    | .inl q => ([(g p).1], .inl q)
    | .inr q => if kd q = sep then ((g p).1 :: (z_lst kd sep g d (q + 1)).1, (z_lst kd sep g d (q + 1)).2) else ([(g p).1], .inr q)
/-- something that stands only behind a token -/
def z_opt {α : Type} (x : Bool × z_P) (g : Nat → List α × z_P) : List α × z_P := match x with
  | (true, .inr q) => g q
  | (_, r) => ([], r)
/-- something that isn't read by one who is stuck -/
def z_go {α : Type} (r : z_P) (g : Nat → List α × z_P) : List α × z_P := match r with
  | .inr q => g q
  | .inl q => ([], .inl q)
section
variable {n : Nat} {kd pl : Nat → Nat} {vl : Nat → Int64}
theorem b_loop {α β : Type} (K : Nat → Int32 → g_St → Option β) (E : g_St → Option β) (sk : g_St → Option (Int32 × g_St)) (sep : Nat) (g : Nat → α × z_P) (D : Nat) (J J' : Nat → List α → g_St → Prop)
    (hs : ∀ s r, M_b n kd pl vl s r → ∃ s', sk s = some (z_g (z_skr kd sep r).1, s') ∧ M_b n kd pl vl s' (z_skr kd sep r).2 ∧ M_as s s')
    (hE : ∀ f s, K (f + 1) 0 s = E s)
    (turn : ∀ p l u f, l.length ≤ D → M_b n kd pl vl u (.inr p) → J' p l u → ∃ s, M_b n kd pl vl s (g p).2 ∧ K (f + 1) 1 u = (if D ≤ l.length then K f 0 s else g_c (sk s) fun i t => if i = 0 then K f 0 t else K f 1 t) ∧ ∀ q, (g p).2 = .inr q → J q (l ++ [(g p).1]) s)
    (hJ : ∀ q l s s', J q l s → M_as s s' → J' (q + 1) l s' ∧ J q l s') :
    ∀ d p l u f, l.length + d = D → d + 1 < f → M_b n kd pl vl u (.inr p) → J' p l u → ∃ u', K f 1 u = E u' ∧ M_b n kd pl vl u' (z_lst kd sep g d p).2 ∧ (z_lst kd sep g d p).1.length ≤ d + 1 ∧ ∀ q, (z_lst kd sep g d p).2 = .inr q → J q (l ++ (z_lst kd sep g d p).1) u' := by
  intro d
  induction d with
  | zero =>
    intro p l u f h1 h2 h3 h4
    obtain ⟨f, rfl⟩ : ∃ m, f = m + 2 := ⟨f - 2, by omega⟩
    obtain ⟨s, a1, a2, a3⟩ := turn p l u (f + 1) (by omega) h3 h4
    rw [if_pos (by omega), hE] at a2
    exact ⟨s, a2, a1, Nat.le_refl _, a3⟩
  | succ d ih =>
    intro p l u f h1 h2 h3 h4
    obtain ⟨f, rfl⟩ : ∃ m, f = m + 2 := ⟨f - 2, by omega⟩
    obtain ⟨s, a1, a2, a3⟩ := turn p l u (f + 1) (by omega) h3 h4
    obtain ⟨t, b1, b2, b3⟩ := hs s _ a1
    rw [if_neg (by omega), b1, x_c] at a2
    cases hz : (g p).2 with
    | inl q =>
      have e : z_lst kd sep g (d + 1) p = ([(g p).1], .inl q) := by rw [z_lst, hz]
      rw [hz] at b2 a2
      rw [if_pos (show z_g (z_skr kd sep (.inl q)).1 = 0 from rfl), hE] at a2
      rw [e]
      exact ⟨t, a2, b2, by show 1 ≤ _; omega, fun q' w => by cases w⟩
    | inr q =>
      by_cases w : kd q = sep
      · have e : z_lst kd sep g (d + 1) p = ((g p).1 :: (z_lst kd sep g d (q + 1)).1, (z_lst kd sep g d (q + 1)).2) := by rw [z_lst, hz]; simp only []; rw [if_pos w]
        rw [hz, z_skr_t w] at b2 a2
        rw [if_neg (show ¬ z_g (true, (.inr (q + 1) : z_P)).1 = 0 from (show ¬ z_g true = 0 by decide))] at a2
        obtain ⟨u', c1, c2, c3, c4⟩ := ih (q + 1) (l ++ [(g p).1]) t (f + 1) (by rw [List.length_append, List.length_singleton]; omega) (by omega) b2 (hJ q _ s t (a3 q hz) b3).1
        rw [e]
        refine ⟨u', a2.trans c1, c2, by show (z_lst kd sep g d (q + 1)).1.length + 1 ≤ _; omega, fun q' w' => ?_⟩
        have := c4 q' w'
        rw [List.append_assoc] at this
        exact this
      · have e : z_lst kd sep g (d + 1) p = ([(g p).1], .inr q) := by rw [z_lst, hz]; simp only []; rw [if_neg w]
        rw [hz, z_skr_f w] at b2 a2
        rw [if_pos (show z_g (false, (.inr q : z_P)).1 = 0 from rfl), hE] at a2
        rw [e]
        exact ⟨t, a2, b2, by show 1 ≤ _; omega, fun q' w' => (hJ q' _ s t (a3 q' (by rw [hz]; exact w')) b3).2⟩
theorem z_opt_f {α : Type} {x : Bool × z_P} (g : Nat → List α × z_P) (h : x.1 = false) : z_opt x g = ([], x.2) := by
  obtain ⟨b, r⟩ := x
  cases b with
  | false => rfl
  | true => cases h
theorem z_opt_t {α : Type} {q : Nat} (g : Nat → List α × z_P) : z_opt (true, .inr q) g = g q := rfl
theorem z_skr_true {k : Nat} {r : z_P} (h : (z_skr kd k r).1 = true) : ∃ p, r = .inr p ∧ kd p = k ∧ z_skr kd k r = (true, .inr (p + 1)) := by
  cases r with
  | inl x => cases h
  | inr p =>
    by_cases w : kd p = k
    · exact ⟨p, rfl, w, z_skr_t w⟩
    · rw [z_skr_f w] at h; cases h
theorem z_skr_false {k : Nat} {r : z_P} (h : (z_skr kd k r).1 = false) : (z_skr kd k r).2 = r := by
  cases r with
  | inl x => rfl
  | inr p =>
    by_cases w : kd p = k
    · rw [z_skr_t w] at h; cases h
    · rw [z_skr_f w]
end
