/-! RUNNING (engine): rows with their trails -/
abbrev r_Row : Type := List (Nat → Int64)
/-- a part: width; SEARCH (BREADTH, column); CYCLE's column; whether equal rows are dropped -/
abbrev r_Pt : Type := Nat × Option (Bool × Nat) × Option Nat × Bool
def r_c0 : Nat → Int64 := fun _ => 0
def r_hd (a : r_Row) : Nat → Int64 := a.headD r_c0
def r_eqc (d o : Nat) : r_Row → r_Row → Bool
  | a :: s, b :: t => if a d = b d then (if a o = b o then r_eqc d o s t else false) else false
  | _, _ => true
def r_eqw (n : Nat) (a b : Nat → Int64) : Bool := (List.range n).all fun j => decide (a j = b j)
def r_tr (X : r_Pt) : Bool := X.2.1.isSome || X.2.2.1.isSome
def r_dp (X : r_Pt) : Option Nat := match X.2.1 with
  | some (false, c) => some c
  | _ => X.2.2.1
def r_st (X : r_Pt) (a b : r_Row) : Bool := decide (a.length = b.length) && match r_dp X with
  | none => true
  | some d => r_eqc d (X.2.2.1.getD d) a b
def r_same (X : r_Pt) (a b : r_Row) : Bool := r_eqw X.1 (r_hd a) (r_hd b) && (!r_tr X || r_st X a b)
def X_pt (w : g_St) (P : Nat) (X : r_Pt) : Prop := P % 64 = 7 ∧ (X.1 ≤ 3 ∧ (∀ c, X.2.1 = some c → c.2 < X.1) ∧ ∀ c, X.2.2.1 = some c → c < X.1) ∧ g_I w 135 P = Int32.ofNat X.1 ∧ g_I w 391 P = z_g X.2.1.isSome ∧ g_I w 455 P = z_g X.2.2.1.isSome ∧ g_I w 327 P = z_g (X.2.1.any (·.1)) ∧ g_I w 1031 P = z_oc (X.2.1.map (·.2)) ∧ g_I w 1095 P = z_oc X.2.2.1 ∧ g_I w 519 P = z_g X.2.2.2
theorem X_pt.ag {v w : g_St} {P : Nat} {X : r_Pt} (h : X_pt v P X) (f : E_ag v w) : X_pt w P X := by
  obtain ⟨h1, h2, h3, h4, h5, h6, h7, h8, h9⟩ := h
  have m1 : 6 ≤ P % 64 := by omega
  have m2 : P % 64 ≤ 11 := by omega
  exact ⟨h1, h2, by rw [f.I m1 m2 (by decide)]; exact h3, by rw [f.I m1 m2 (by decide)]; exact h4, by rw [f.I m1 m2 (by decide)]; exact h5, by rw [f.I m1 m2 (by decide)]; exact h6, by rw [f.I m1 m2 (by decide)]; exact h7, by rw [f.I m1 m2 (by decide)]; exact h8, by rw [f.I m1 m2 (by decide)]; exact h9⟩
/-- the arrays of a relation of the runner -/
def X_fx (w : g_St) (p : Nat) : Prop := g_R w 69 (64 * p + 5) = some (277 + 64 * p) ∧ g_R w 133 (64 * p + 5) = some (276 + 128 * p) ∧ g_R w 197 (64 * p + 5) = some (340 + 128 * p) ∧ g_ln w (277 + 64 * p) = 196 ∧ g_ln w (276 + 128 * p) = 49 ∧ g_ln w (340 + 128 * p) = 49
theorem X_fx.of {w : g_St} (h : e_Fix w) {p : Nat} (hp : p < 5) : X_fx w p := by
  have e : p = 0 ∨ p = 1 ∨ p = 2 ∨ p = 3 ∨ p = 4 := by omega
  rcases e with e | e | e | e | e <;> subst e
  · exact ⟨(e_R h 12 rfl).1, (e_R h 13 rfl).1, (e_R h 14 rfl).1, (e_R h 12 rfl).2, (e_R h 13 rfl).2, (e_R h 14 rfl).2⟩
  · exact ⟨(e_R h 15 rfl).1, (e_R h 16 rfl).1, (e_R h 17 rfl).1, (e_R h 15 rfl).2, (e_R h 16 rfl).2, (e_R h 17 rfl).2⟩
  · exact ⟨(e_R h 18 rfl).1, (e_R h 19 rfl).1, (e_R h 20 rfl).1, (e_R h 18 rfl).2, (e_R h 19 rfl).2, (e_R h 20 rfl).2⟩
  · exact ⟨(e_R h 21 rfl).1, (e_R h 22 rfl).1, (e_R h 23 rfl).1, (e_R h 21 rfl).2, (e_R h 22 rfl).2, (e_R h 23 rfl).2⟩
  · exact ⟨(e_R h 24 rfl).1, (e_R h 25 rfl).1, (e_R h 26 rfl).1, (e_R h 24 rfl).2, (e_R h 25 rfl).2, (e_R h 26 rfl).2⟩
/-- a row and those that it came of -/
def X_ch (w : g_St) (p n wd : Nat) : r_Row → Int32 → Prop
  | [], i => i = -1
  | c :: t, i => ∃ k, k < n ∧ i = Int32.ofNat k ∧ (∀ j, j < wd ∨ j = 3 → g_AL w (277 + 64 * p) (k * 4 + j) = c j) ∧ X_ch w p n wd t (g_AI w (276 + 128 * p) k)
theorem X_ch.mono {w : g_St} {p n m wd : Nat} (l : n ≤ m) : ∀ {a : r_Row} {i : Int32}, X_ch w p n wd a i → X_ch w p m wd a i := by
  intro a
  induction a with
  | nil => intro i h; exact h
  | cons c t ih =>
    intro i h
    obtain ⟨k, k1, k2, k3, k4⟩ := h
    exact ⟨k, by omega, k2, k3, ih k4⟩
theorem X_ch.fr {w w' : g_St} {p n wd : Nat} (h1 : ∀ k j, k < n → j ≤ 3 → g_AL w' (277 + 64 * p) (k * 4 + j) = g_AL w (277 + 64 * p) (k * 4 + j)) (h2 : ∀ k, k < n → g_AI w' (276 + 128 * p) k = g_AI w (276 + 128 * p) k) (hw : wd ≤ 3) : ∀ {a : r_Row} {i : Int32}, X_ch w p n wd a i → X_ch w' p n wd a i := by
  intro a
  induction a with
  | nil => intro i h; exact h
  | cons c t ih =>
    intro i h
    obtain ⟨k, k1, k2, k3, k4⟩ := h
    refine ⟨k, k1, k2, fun j hj => ?_, ?_⟩
    · rw [h1 k j k1 (by omega)]; exact k3 j hj
    · rw [h2 k k1]; exact ih k4
/-- the rows of a relation -/
def X_rl (w : g_St) (p : Nat) (tr : Bool) (wd : Nat) (rows : List r_Row) : Prop := g_I w 261 (64 * p + 5) = Int32.ofNat rows.length ∧ rows.length ≤ 48 ∧ (∀ i, i < rows.length → ∀ j, j < wd → g_AL w (277 + 64 * p) (i * 4 + j) = r_hd (rows.getD i []) j) ∧ (tr = true → ∀ i, i < rows.length → X_ch w p rows.length wd (rows.getD i []) (Int32.ofNat i) ∧ g_AI w (340 + 128 * p) i = Int32.ofNat (rows.getD i []).length ∧ (rows.getD i []).length ≤ 100)
theorem y_eqc {w : g_St} {p n wd : Nat} (hw : wd ≤ 3) (F : X_fx w p) (hn : n ≤ 49) {row L : Nat} (hr : row < 49) (hL : g_AI w (340 + 128 * p) row = Int32.ofNat L) (L1 : L ≤ 101) {d o : Nat} (hd : d < wd) (ho : o < wd) : ∀ (a b : r_Row) (i j : Int32) (f : Nat), a.length = b.length → a.length ≤ L → a.length < f → X_ch w p n wd a i → X_ch w p n wd b j → f_Rl_isSame_136 f (some (64 * p + 5)) (Int32.ofNat row) (Int32.ofNat d) (Int32.ofNat o) i j (Int32.ofNat (L - a.length)) w = some (z_g (r_eqc d o a b), w) := by
  obtain ⟨f1, f2, f3, f4, f5, f6⟩ := F
  have nn : ∀ k : Nat, k < 2 ^ 31 → ¬ Int32.ofNat k < 0 := fun k hk => by rw [show (0 : Int32) = Int32.ofNat 0 from rfl, x_lt (by omega) (by omega)]; omega
  intro a
  induction a with
  | nil =>
    intro b i j f e1 e2 e3 h g
    obtain ⟨f, rfl⟩ : ∃ m, f = m + 1 := ⟨f - 1, by omega⟩
    rw [f_Rl_isSame_136, x_gR, f3, x_aI (by omega) (by omega), hL, if_pos (by rw [List.length_nil, x_le (by omega) (by omega)]; omega)]
    rfl
  | cons c s ih =>
    intro b i j f e1 e2 e3 h g
    obtain ⟨f, rfl⟩ : ∃ m, f = m + 1 := ⟨f - 1, by omega⟩
    cases b with
    | nil => cases e1
    | cons c' t =>
      obtain ⟨k, k1, k2, k3, k4⟩ := h
      obtain ⟨k', g1, g2, g3, g4⟩ := g
      rw [List.length_cons] at e2 e3
      rw [f_Rl_isSame_136, x_gR, f3, x_aI (by omega) (by omega), hL, if_neg (by rw [List.length_cons, x_le (by omega) (by omega)]; omega), if_neg (nn d (by omega)), k2, g2, if_neg (nn k (by omega)), if_neg (nn k' (by omega)), x_gR, f1, show (4 : Int32) = Int32.ofNat 4 from rfl, x_mul, x_add, x_aL (by omega) (by omega), k3 d (Or.inl hd), x_gR, f1, x_mul, x_add, x_aL (by omega) (by omega), g3 d (Or.inl hd), r_eqc]
      by_cases w1 : c d = c' d
      · rw [if_pos w1, if_pos w1, x_gR, f1, x_add, x_aL (by omega) (by omega), k3 o (Or.inl ho), x_gR, f1, x_add, x_aL (by omega) (by omega), g3 o (Or.inl ho)]
        by_cases w2 : c o = c' o
        · rw [if_pos w2, if_pos w2, x_gR, f2, x_aI (by omega) (by omega), x_gR, f2, x_aI (by omega) (by omega), List.length_cons, x_p1, show L - (s.length + 1) + 1 = L - s.length by omega]
          exact ih t _ _ f (by rw [List.length_cons, List.length_cons] at e1; omega) (by omega) (by omega) k4 g4
        · rw [if_neg w2, if_neg w2]; rfl
      · rw [if_neg w1, if_neg w1]; rfl
/-- a row and the one that may come -/
theorem y_same {w : g_St} {p P : Nat} {X : r_Pt} (hX : X_pt w P X) (F : X_fx w p) {n : Nat} (hn : n ≤ 48) (hc : g_I w 261 (64 * p + 5) = Int32.ofNat n) {i : Nat} (hi : i < n) {a b : r_Row} (h1 : ∀ j, j < X.1 → g_AL w (277 + 64 * p) (i * 4 + j) = r_hd a j) (h2 : ∀ j, j < X.1 → g_AL w (277 + 64 * p) (n * 4 + j) = r_hd b j) (h3 : r_tr X = true → (X_ch w p n X.1 a (Int32.ofNat i) ∧ g_AI w (340 + 128 * p) i = Int32.ofNat a.length ∧ a.length ≤ 100) ∧ X_ch w p (n + 1) X.1 b (Int32.ofNat n) ∧ g_AI w (340 + 128 * p) n = Int32.ofNat b.length ∧ b.length ≤ 101) : f_Rl_isSame (some (64 * p + 5)) (some P) (Int32.ofNat i) w = some (z_g (r_same X a b), w) := by
  obtain ⟨p1, ⟨w3, c1, c2⟩, p3, p4, p5, p6, p7, p8, p9⟩ := hX
  obtain ⟨f1, f2, f3, f4, f5, f6⟩ := F
  have z0 : g_rZ 0 (some ((0 : Int32), w)) = some (z_g false, w) := rfl
  have z1 : g_rZ 1 (some ((1 : Int32), w)) = some (z_g true, w) := rfl
  have e61 : r_tr X = true → f_Rl_isSame_61 (some (64 * p + 5)) (some P) (Int32.ofNat i) w = some (z_g (r_st X a b), w) := by
    intro ht
    obtain ⟨⟨g1, g2, g3⟩, g4, g5, g6⟩ := h3 ht
    unfold f_Rl_isSame_61 r_st
    rw [x_gR, f3, x_aI (by omega) (by omega), g2, x_gR, f3, x_gI, hc, x_aI (by omega) (by omega), g5]
    by_cases l : a.length = b.length
    · rw [if_pos (by rw [l]), decide_eq_true l, Bool.true_and]
      have e106 : ∀ dd : Option Nat, dd = r_dp X → f_Rl_isSame_106 (some (64 * p + 5)) (some P) (Int32.ofNat i) (z_oc dd) w = some (z_g (match dd with | none => true | some d => r_eqc d (X.2.2.1.getD d) a b), w) := by
        intro dd hdd
        have dl : ∀ d, dd = some d → d < X.1 := by
          intro d e
          rw [hdd] at e
          unfold r_dp at e
          cases hx : X.2.1 with
          | none => rw [hx] at e; exact c2 d e
          | some s =>
            rw [hx] at e
            obtain ⟨b', c'⟩ := s
            cases b' with
            | true => exact c2 d e
            | false => cases e; exact c1 _ hx
        unfold f_Rl_isSame_106
        rw [x_gI, p8]
        cases dd with
        | none =>
          have hn0 : X.2.2.1 = none := by
            unfold r_dp at hdd
            cases hx : X.2.1 with
            | none => rw [hx] at hdd; exact hdd.symm
            | some s =>
              rw [hx] at hdd
              obtain ⟨b', c'⟩ := s
              cases b' with
              | true => exact hdd.symm
              | false => cases hdd
          rw [hn0, if_neg (show ¬ (0 : Int32) ≤ z_oc none from by decide), x_gI, hc]
          obtain ⟨f, hf⟩ : ∃ f, 200000 = f + 1 := ⟨199999, rfl⟩
          rw [hf, f_Rl_isSame_136, x_gR, f3, x_aI (by omega) (by omega), g2]
          by_cases e : Int32.ofNat a.length ≤ 0
          · rw [if_pos e]; rfl
          · rw [if_neg e, if_pos (show z_oc none < 0 from by decide)]; rfl
        | some d =>
          have hd := dl d rfl
          have fin : ∀ o, o < X.1 → f_Rl_isSame_136 200000 (some (64 * p + 5)) (Int32.ofNat i) (Int32.ofNat d) (Int32.ofNat o) (Int32.ofNat i) (Int32.ofNat n) 0 w = some (z_g (r_eqc d o a b), w) := fun o ho => by
            have := y_eqc (w := w) (p := p) (n := n + 1) (wd := X.1) w3 ⟨f1, f2, f3, f4, f5, f6⟩ (by omega) (row := i) (L := a.length) (by omega) g2 (by omega) hd ho a b (Int32.ofNat i) (Int32.ofNat n) 200000 l (Nat.le_refl _) (by omega) (g1.mono (by omega)) g4
            rw [Nat.sub_self] at this
            exact this
          cases hx : X.2.2.1 with
          | none =>
            rw [if_neg (show ¬ (0 : Int32) ≤ z_oc none from by decide), x_gI, hc]
            exact fin d hd
          | some o =>
            have ho := c2 o hx
            rw [if_pos (show (0 : Int32) ≤ z_oc (some o) from by show (0 : Int32) ≤ Int32.ofNat o; rw [show (0 : Int32) = Int32.ofNat 0 from rfl, x_le (by omega) (by omega)]; omega), x_gI, p8, hx, x_gI, hc]
            exact fin o ho
      rw [x_gI, p6, x_gI, p7, x_gI, p7, x_gI, p8]
      cases hx : X.2.1 with
      | none =>
        rw [if_pos (show z_g ((none : Option (Bool × Nat)).any (·.1)) = 0 from rfl), if_neg (show ¬ (0 : Int32) ≤ z_oc ((none : Option (Bool × Nat)).map (·.2)) from by decide)]
        have := e106 X.2.2.1 (by unfold r_dp; rw [hx])
        rw [this]
        unfold r_dp
        rw [hx]
      | some s =>
        obtain ⟨b', c'⟩ := s
        have hc' := c1 _ hx
        cases b' with
        | true =>
          rw [if_neg (show ¬ z_g ((some (true, c')).any (·.1)) = 0 from (by decide : ¬ z_g true = 0))]
          have := e106 X.2.2.1 (by unfold r_dp; rw [hx])
          rw [this]
          unfold r_dp
          rw [hx]
        | false =>
          have hlt : c' < X.1 := hc'
          rw [if_pos (show z_g ((some (false, c')).any (·.1)) = 0 from rfl), if_pos (show (0 : Int32) ≤ z_oc ((some (false, c')).map (·.2)) from by show (0 : Int32) ≤ Int32.ofNat c'; rw [show (0 : Int32) = Int32.ofNat 0 from rfl, x_le (by omega) (by omega)]; omega)]
          have := e106 (some c') (by unfold r_dp; rw [hx])
          rw [show z_oc ((some (false, c')).map (·.2)) = z_oc (some c') from rfl, this]
          unfold r_dp
          rw [hx]
    · rw [if_neg (by rw [x_eq (by omega) (by omega)]; exact l), decide_eq_false l, Bool.false_and]; rfl
  have key : ∀ (d j f : Nat), j + d = X.1 → d < f → f_Rl_isSame_2 f (some (64 * p + 5)) (some P) (Int32.ofNat i) (Int32.ofNat j) w = some (z_g ((List.range' j d).all (fun j => decide (r_hd a j = r_hd b j)) && (!r_tr X || r_st X a b)), w) := by
    intro d
    induction d with
    | zero =>
      intro j f e1 e2
      obtain ⟨f, rfl⟩ : ∃ m, f = m + 1 := ⟨f - 1, by omega⟩
      rw [f_Rl_isSame_2, x_gI, p3, if_pos (by rw [x_le (by omega) (by omega)]; omega), x_gI, p4, x_gI, p5]
      show _ = some (z_g (true && (!r_tr X || r_st X a b)), w)
      rw [Bool.true_and]
      cases hs : X.2.1.isSome with
      | true =>
        have ht : r_tr X = true := by unfold r_tr; rw [hs]; rfl
        rw [if_neg (show ¬ z_g true = 0 from by decide), e61 ht, ht]
        rfl
      | false =>
        rw [if_pos (show z_g false = 0 from rfl)]
        cases hc' : X.2.2.1.isSome with
        | true =>
          have ht : r_tr X = true := by unfold r_tr; rw [hs, hc']; rfl
          rw [if_neg (show ¬ z_g true = 0 from by decide), e61 ht, ht]
          rfl
        | false =>
          have ht : r_tr X = false := by unfold r_tr; rw [hs, hc']; rfl
          rw [if_pos (show z_g false = 0 from rfl), ht]
          rfl
    | succ d ih =>
      intro j f e1 e2
      obtain ⟨f, rfl⟩ : ∃ m, f = m + 1 := ⟨f - 1, by omega⟩
      rw [f_Rl_isSame_2, x_gI, p3, if_neg (by rw [x_le (by omega) (by omega)]; omega), x_gR, f1, show (4 : Int32) = Int32.ofNat 4 from rfl, x_mul, x_add, x_aL (by omega) (by omega), h1 j (by omega), x_gR, f1, x_gI, hc, x_mul, x_add, x_aL (by omega) (by omega), h2 j (by omega), List.range'_succ, List.all_cons]
      by_cases e : r_hd a j = r_hd b j
      · rw [if_pos e, decide_eq_true e, Bool.true_and, x_p1]
        exact ih (j + 1) f (by omega) (by omega)
      · rw [if_neg e, decide_eq_false e, Bool.false_and, Bool.false_and]; rfl
  have k0 := key X.1 0 200000 (by omega) (by omega)
  rw [show List.range' 0 X.1 = List.range X.1 from List.range_eq_range'.symm] at k0
  exact k0
theorem y_heq {w : g_St} {p P : Nat} {X : r_Pt} (hX : X_pt w P X) (F : X_fx w p) {rows : List r_Row} (R : X_rl w p (r_tr X) X.1 rows) {b : r_Row} (h2 : ∀ j, j < X.1 → g_AL w (277 + 64 * p) (rows.length * 4 + j) = r_hd b j) (h3 : r_tr X = true → X_ch w p (rows.length + 1) X.1 b (Int32.ofNat rows.length) ∧ g_AI w (340 + 128 * p) rows.length = Int32.ofNat b.length ∧ b.length ≤ 101) : f_Rl_hasEqual (some (64 * p + 5)) (some P) w = some (z_g (rows.any fun a => r_same X a b), w) := by
  obtain ⟨r1, r2, r3, r4⟩ := R
  have key : ∀ (d i f : Nat), i + d = rows.length → d < f → f_Rl_hasEqual_2 f (some (64 * p + 5)) (some P) (Int32.ofNat i) w = some (z_g ((rows.drop i).any fun a => r_same X a b), w) := by
    intro d
    induction d with
    | zero =>
      intro i f e1 e2
      obtain ⟨f, rfl⟩ : ∃ m, f = m + 1 := ⟨f - 1, by omega⟩
      rw [f_Rl_hasEqual_2, x_gI, r1, if_pos (by rw [x_le (by omega) (by omega)]; omega), List.drop_eq_nil_of_le (by omega)]
      rfl
    | succ d ih =>
      intro i f e1 e2
      obtain ⟨f, rfl⟩ : ∃ m, f = m + 1 := ⟨f - 1, by omega⟩
      have hd : rows.drop i = rows.getD i [] :: rows.drop (i + 1) := by
        rw [List.getD_eq_getElem?_getD, List.getElem?_eq_getElem (by omega)]
        exact List.drop_eq_getElem_cons (by omega)
      have s := y_same hX F r2 r1 (i := i) (by omega) (a := rows.getD i []) (b := b) (r3 i (by omega)) h2 (fun ht => ⟨r4 ht i (by omega), h3 ht⟩)
      rw [f_Rl_hasEqual_2, x_gI, r1, if_neg (by rw [x_le (by omega) (by omega)]; omega), x_nn, s, x_c, hd, List.any_cons]
      cases r_same X (rows.getD i []) b with
      | true => rw [if_neg (show ¬ z_g true = 0 from by decide)]; rfl
      | false => rw [if_pos (show z_g false = 0 from rfl), Bool.false_or, x_p1]; exact ih (i + 1) f (by omega) (by omega)
  have k0 := key rows.length 0 200000 (by omega) (by omega)
  rw [List.drop_zero] at k0
  exact k0
