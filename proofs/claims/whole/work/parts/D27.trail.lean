/-! RUNNING (engine): cells and trails are compared -/
def r_c64 (x y : Int64) : Int32 := if y ≤ x then (if x = y then 0 else 1) else -1
def r_ck (x y : Int64) : Int32 := r_c64 (if x = r_N then -2147483649 else x) (if y = r_N then -2147483649 else y)
def r_cn (x y : Nat) : Int32 := if y ≤ x then (if x = y then 0 else 1) else -1
theorem y_ck (x y : Int64) (w : g_St) : f_Rl_compareCells x y w = some (r_ck x y, w) := by
  have l : ∀ a b : Int64, f_Rl_compareCells_30 a b w = some (r_c64 a b, w) := fun a b => by
    unfold f_Rl_compareCells_30 f_Lo_compare r_c64
    by_cases h : b ≤ a
    · rw [if_pos h, if_pos h]
      by_cases e : a = b
      · rw [if_pos e, if_pos e]; rfl
      · rw [if_neg e, if_neg e]; rfl
    · rw [if_neg h, if_neg h]; rfl
  have k : ∀ a : Int64, f_Rl_compareCells_15 y a w = some (r_c64 a (if y = r_N then -2147483649 else y), w) := fun a => by
    unfold f_Rl_compareCells_15
    by_cases h : y = r_N
    · rw [if_pos h, if_pos h, l]
    · rw [if_neg h, if_neg h, l]
  unfold f_Rl_compareCells r_ck
  by_cases h : x = r_N
  · rw [if_pos h, if_pos h, k]
  · rw [if_neg h, if_neg h, k]
/-- trails from their ends on; what is nearer to the first decides -/
def r_dg (c : Nat) : Nat → r_Row → r_Row → Int32 → Int32
  | 0, _, _, r => r
  | L + 1, a, b, r => r_dg c L (if a.length = L + 1 then a.tail else a) (if b.length = L + 1 then b.tail else b) (if a.length = L + 1 ∧ b.length = L + 1 ∧ ¬ r_ck (r_hd a c) (r_hd b c) = 0 then r_ck (r_hd a c) (r_hd b c) else r)
def r_ct (X : r_Pt) (a b : r_Row) : Int32 := match X.2.1 with
  | none => 0
  | some (true, c) => if r_cn a.length b.length = 0 then r_ck (r_hd a c) (r_hd b c) else r_cn a.length b.length
  | some (false, c) => r_dg c (max a.length b.length) a b (r_cn a.length b.length)
theorem X_ch.len {w : g_St} {p n wd : Nat} (hn : n < 2 ^ 31) : ∀ {a b : r_Row} {i : Int32}, X_ch w p n wd a i → X_ch w p n wd b i → a.length = b.length := by
  intro a
  induction a with
  | nil =>
    intro b i h g
    cases b with
    | nil => rfl
    | cons c t =>
      obtain ⟨k, k1, k2, -⟩ := g
      have e : i = -1 := h
      exact absurd (k2.symm.trans e) (x_nm1 (by omega))
  | cons c t ih =>
    intro b i h g
    obtain ⟨k, k1, k2, k3, k4⟩ := h
    cases b with
    | nil =>
      have e : i = -1 := g
      exact absurd (k2.symm.trans e) (x_nm1 (by omega))
    | cons c' t' =>
      obtain ⟨k', g1, g2, g3, g4⟩ := g
      rw [k2, x_eq (by omega) (by omega)] at g2
      rw [← g2] at g4
      rw [List.length_cons, List.length_cons, ih k4 g4]
theorem X_rl.ln {w : g_St} {p wd : Nat} {rows : List r_Row} (R : X_rl w p true wd rows) {a : r_Row} {k : Nat} (hk : k < rows.length) (h : X_ch w p rows.length wd a (Int32.ofNat k)) : g_AI w (340 + 128 * p) k = Int32.ofNat a.length ∧ a.length ≤ 100 := by
  obtain ⟨r1, r2, r3, r4⟩ := R
  obtain ⟨c1, c2, c3⟩ := r4 rfl k hk
  rw [X_ch.len (by omega) h c1]
  exact ⟨c2, c3⟩
theorem y_ct89 {w : g_St} {p wd : Nat} {rows : List r_Row} (R : X_rl w p true wd rows) (F : X_fx w p) (hw : wd ≤ 3) {c : Nat} (hc : c < wd) : ∀ (L f : Nat) (a b : r_Row) (x y : Int32) (r : Int32), L < f → L ≤ 101 → a.length ≤ L → b.length ≤ L → (1 ≤ L → 1 ≤ a.length) → (1 ≤ L → 1 ≤ b.length) → X_ch w p rows.length wd a x → X_ch w p rows.length wd b y → f_Rl_compareTrails_89 f (some (64 * p + 5)) (Int32.ofNat c) r x y (Int32.ofNat L) w = some (r_dg c L a b r, w) := by
  obtain ⟨f1, f2, f3, f4, f5, f6⟩ := F
  have r48 := R.2.1
  intro L
  induction L with
  | zero =>
    intro f a b x y r e1 _ _ _ _ _ _ _
    obtain ⟨f, rfl⟩ : ∃ m, f = m + 1 := ⟨f - 1, by omega⟩
    rw [f_Rl_compareTrails_89, if_pos (show Int32.ofNat 0 ≤ 0 from by decide)]
    rfl
  | succ L ih =>
    intro f a b x y r e1 e2 la lb pa pb ha hb
    obtain ⟨f, rfl⟩ : ∃ m, f = m + 1 := ⟨f - 1, by omega⟩
    cases a with
    | nil => exact absurd (pa (by omega)) (by decide)
    | cons ca ta =>
    cases b with
    | nil => exact absurd (pb (by omega)) (by decide)
    | cons cb tb =>
    have ha' := ha
    have hb' := hb
    obtain ⟨i, i1, i2, i3, i4⟩ := ha
    obtain ⟨j, j1, j2, j3, j4⟩ := hb
    rw [i2] at ha'
    rw [j2] at hb'
    obtain ⟨n1, n2⟩ := R.ln i1 ha'
    obtain ⟨n3, n4⟩ := R.ln j1 hb'
    have nn : ∀ k : Nat, k < 2 ^ 31 → ¬ Int32.ofNat k < 0 := fun k hk => by rw [show (0 : Int32) = Int32.ofNat 0 from rfl, x_lt (by omega) (by omega)]; omega
    have m1 : Int32.ofNat (L + 1) + (-1) = Int32.ofNat L := by rw [← x_m1 L]; exact (Int32.sub_eq_add_neg _ _).symm
    rw [f_Rl_compareTrails_89, if_neg (show ¬ Int32.ofNat (L + 1) ≤ 0 from by rw [show (0 : Int32) = Int32.ofNat 0 from rfl, x_le (by omega) (by omega)]; omega), i2, if_neg (nn i (by omega)), j2, if_neg (nn j (by omega)), x_gR, f3, x_aI (by omega) (by omega), n1, r_dg]
    rw [List.length_cons] at la lb n1 n2 n3 n4 ⊢
    have eA : (Int32.ofNat (ta.length + 1) = Int32.ofNat (L + 1)) = (ta.length + 1 = L + 1) := x_eq (by omega) (by omega)
    have eB : (Int32.ofNat (tb.length + 1) = Int32.ofNat (L + 1)) = (tb.length + 1 = L + 1) := x_eq (by omega) (by omega)
    rw [List.length_cons]
    have e121p : tb.length + 1 = L + 1 → ∀ z, f_Rl_compareTrails_121 (f_Rl_compareTrails_89 f) (some (64 * p + 5)) (Int32.ofNat c) r (Int32.ofNat i) (Int32.ofNat j) (Int32.ofNat (L + 1)) z w = f_Rl_compareTrails_140 (f_Rl_compareTrails_89 f) (some (64 * p + 5)) (Int32.ofNat c) r (Int32.ofNat i) (Int32.ofNat j) (Int32.ofNat (L + 1)) z 1 w := fun q z => by
      unfold f_Rl_compareTrails_121
      rw [x_gR, f3, x_aI (by omega) (by omega), n3, if_pos (by rw [eB]; exact q)]
    have e121n : ¬ tb.length + 1 = L + 1 → ∀ z, f_Rl_compareTrails_121 (f_Rl_compareTrails_89 f) (some (64 * p + 5)) (Int32.ofNat c) r (Int32.ofNat i) (Int32.ofNat j) (Int32.ofNat (L + 1)) z w = f_Rl_compareTrails_140 (f_Rl_compareTrails_89 f) (some (64 * p + 5)) (Int32.ofNat c) r (Int32.ofNat i) (Int32.ofNat j) (Int32.ofNat (L + 1)) z 0 w := fun q z => by
      unfold f_Rl_compareTrails_121
      rw [x_gR, f3, x_aI (by omega) (by omega), n3, if_neg (by rw [eB]; exact q)]
    have one0 : ¬ (1 : Int32) = 0 := by decide
    have st : ∀ r', f_Rl_compareTrails_183 (f_Rl_compareTrails_89 f) (some (64 * p + 5)) (Int32.ofNat c) r (Int32.ofNat i) (Int32.ofNat j) (Int32.ofNat (L + 1)) (if ta.length + 1 = L + 1 then 1 else 0) (if tb.length + 1 = L + 1 then 1 else 0) r' w = some (r_dg c L (if ta.length + 1 = L + 1 then ta else ca :: ta) (if tb.length + 1 = L + 1 then tb else cb :: tb) (if r' = 0 then r else r'), w) := fun r' => by
      have e197 : ∀ r'', f_Rl_compareTrails_197 (f_Rl_compareTrails_89 f) (some (64 * p + 5)) (Int32.ofNat c) (Int32.ofNat i) (Int32.ofNat j) (Int32.ofNat (L + 1)) (if ta.length + 1 = L + 1 then 1 else 0) (if tb.length + 1 = L + 1 then 1 else 0) r'' w = some (r_dg c L (if ta.length + 1 = L + 1 then ta else ca :: ta) (if tb.length + 1 = L + 1 then tb else cb :: tb) r'', w) := fun r'' => by
        have e216 : ∀ x' a', a'.length ≤ L → (1 ≤ L → 1 ≤ a'.length) → X_ch w p rows.length wd a' x' → f_Rl_compareTrails_216 (f_Rl_compareTrails_89 f) (some (64 * p + 5)) (Int32.ofNat c) r'' (Int32.ofNat j) (Int32.ofNat (L + 1)) (if tb.length + 1 = L + 1 then 1 else 0) x' w = some (r_dg c L a' (if tb.length + 1 = L + 1 then tb else cb :: tb) r'', w) := fun x' a' q1 q2 q3 => by
          unfold f_Rl_compareTrails_216
          rw [m1]
          by_cases cB : tb.length + 1 = L + 1
          · rw [if_pos cB, if_pos cB, if_neg one0, x_gR, f2, x_aI (by omega) (by omega)]
            exact ih f a' tb _ _ r'' (by omega) (by omega) q1 (by omega) q2 (by omega) q3 j4
          · rw [if_neg cB, if_neg cB, if_pos rfl]
            exact ih f a' (cb :: tb) _ _ r'' (by omega) (by omega) q1 (by rw [List.length_cons]; omega) q2 (fun _ => by rw [List.length_cons]; omega) q3 hb'
        unfold f_Rl_compareTrails_197
        by_cases cA : ta.length + 1 = L + 1
        · rw [if_pos cA, if_pos cA, if_neg one0, x_gR, f2, x_aI (by omega) (by omega)]
          exact e216 _ ta (by omega) (by omega) i4
        · rw [if_neg cA, if_neg cA, if_pos rfl]
          exact e216 _ (ca :: ta) (by rw [List.length_cons]; omega) (fun _ => by rw [List.length_cons]; omega) ha'
      unfold f_Rl_compareTrails_183
      by_cases z : r' = 0
      · rw [if_pos z, if_pos z, e197]
      · rw [if_neg z, if_neg z, e197]
    have fin : ∀ zA zB r', zA = (if ta.length + 1 = L + 1 then (1 : Int32) else 0) → zB = (if tb.length + 1 = L + 1 then (1 : Int32) else 0) → ∀ rr, (if r' = 0 then r else r') = rr → f_Rl_compareTrails_183 (f_Rl_compareTrails_89 f) (some (64 * p + 5)) (Int32.ofNat c) r (Int32.ofNat i) (Int32.ofNat j) (Int32.ofNat (L + 1)) zA zB r' w = some (r_dg c L (if ta.length + 1 = L + 1 then ta else ca :: ta) (if tb.length + 1 = L + 1 then tb else cb :: tb) rr, w) := fun zA zB r' h1 h2 rr h3 => by rw [h1, h2, st, h3]
    show _ = some (r_dg c L (if ta.length + 1 = L + 1 then ta else ca :: ta) (if tb.length + 1 = L + 1 then tb else cb :: tb) (if ta.length + 1 = L + 1 ∧ tb.length + 1 = L + 1 ∧ ¬ r_ck (ca c) (cb c) = 0 then r_ck (ca c) (cb c) else r), w)
    by_cases cA : ta.length + 1 = L + 1
    · rw [if_pos (show Int32.ofNat (ta.length + 1) = Int32.ofNat (L + 1) from by rw [eA]; exact cA)]
      by_cases cB : tb.length + 1 = L + 1
      · rw [e121p cB]
        unfold f_Rl_compareTrails_140
        rw [if_neg one0, if_neg one0, x_gR, f1, show (4 : Int32) = Int32.ofNat 4 from rfl, x_mul, x_add, x_aL (by omega) (by omega), i3 c (Or.inl hc), x_gR, f1, x_mul, x_add, x_aL (by omega) (by omega), j3 c (Or.inl hc), y_ck, x_c]
        refine fin 1 1 _ (if_pos cA).symm (if_pos cB).symm _ ?_
        by_cases z : r_ck (ca c) (cb c) = 0
        · rw [if_pos z, if_neg (fun q => q.2.2 z)]
        · rw [if_neg z, if_pos ⟨cA, cB, z⟩]
      · rw [e121n cB]
        unfold f_Rl_compareTrails_140
        rw [if_neg one0, if_pos (show (0 : Int32) = 0 from rfl)]
        exact fin 1 0 0 (if_pos cA).symm (if_neg cB).symm _ (by rw [if_pos rfl, if_neg (fun q => cB q.2.1)])
    · rw [if_neg (show ¬ Int32.ofNat (ta.length + 1) = Int32.ofNat (L + 1) from by rw [eA]; exact cA)]
      by_cases cB : tb.length + 1 = L + 1
      · rw [e121p cB]
        unfold f_Rl_compareTrails_140
        rw [if_pos (show (0 : Int32) = 0 from rfl)]
        exact fin 0 1 0 (if_neg cA).symm (if_pos cB).symm _ (by rw [if_pos rfl, if_neg (fun q => cA q.1)])
      · rw [e121n cB]
        unfold f_Rl_compareTrails_140
        rw [if_pos (show (0 : Int32) = 0 from rfl)]
        exact fin 0 0 0 (if_neg cA).symm (if_neg cB).symm _ (by rw [if_pos rfl, if_neg (fun q => cA q.1)])
theorem y_ct {w : g_St} {p P : Nat} {X : r_Pt} (hX : X_pt w P X) (F : X_fx w p) {rows : List r_Row} (R : X_rl w p true X.1 rows) (hs : X.2.1.isSome = true) {x y : Nat} (hx : x < rows.length) (hy : y < rows.length) : f_Rl_compareTrails (some (64 * p + 5)) (some P) (Int32.ofNat x) (Int32.ofNat y) w = some (r_ct X (rows.getD x []) (rows.getD y []), w) := by
  have F' := F
  obtain ⟨p1, ⟨w3, c1, c2⟩, p3, p4, p5, p6, p7, p8, p9⟩ := hX
  obtain ⟨f1, f2, f3, f4, f5, f6⟩ := F
  have r48 := R.2.1
  obtain ⟨a1, a2, a3⟩ := R.2.2.2 rfl x hx
  obtain ⟨b1, b2, b3⟩ := R.2.2.2 rfl y hy
  have ax := R.2.2.1 x hx
  have ay := R.2.2.1 y hy
  generalize rows.getD x [] = a at *
  generalize rows.getD y [] = b at *
  have ne : ∀ {c : r_Row} {i : Nat}, i < 2 ^ 31 → X_ch w p rows.length X.1 c (Int32.ofNat i) → 1 ≤ c.length := fun {c} {i} hi h => by
    cases c with
    | nil => exact absurd (show Int32.ofNat i = -1 from h) (x_nm1 hi)
    | cons _ _ => rw [List.length_cons]; omega
  have la := ne (by omega) a1
  have lb := ne (by omega) b1
  have cmp : f_In_compare (Int32.ofNat a.length) (Int32.ofNat b.length) w = some (r_cn a.length b.length, w) := by
    unfold f_In_compare r_cn
    have e1 : (Int32.ofNat b.length ≤ Int32.ofNat a.length) = (b.length ≤ a.length) := x_le (by omega) (by omega)
    have e2 : (Int32.ofNat a.length = Int32.ofNat b.length) = (a.length = b.length) := x_eq (by omega) (by omega)
    by_cases h : b.length ≤ a.length
    · rw [if_pos (by rw [e1]; exact h), if_pos h]
      by_cases g : a.length = b.length
      · rw [if_pos (by rw [e2]; exact g), if_pos g]
      · rw [if_neg (by rw [e2]; exact g), if_neg g]
    · rw [if_neg (by rw [e1]; exact h), if_neg h]
  cases hX1 : X.2.1 with
  | none => rw [hX1] at hs; cases hs
  | some z =>
    obtain ⟨br, c⟩ := z
    have hc : c < X.1 := c1 (br, c) hX1
    rw [hX1] at p6 p7
    unfold f_Rl_compareTrails r_ct
    rw [x_gI, p7, show z_oc ((some (br, c)).map (·.2)) = Int32.ofNat c from rfl, x_gR, f3, x_aI (by omega) (by omega), a2, x_gR, f3, x_aI (by omega) (by omega), b2, cmp, x_c, x_gI, p6, hX1]
    cases br with
    | true =>
      rw [if_neg (show ¬ z_g ((some (true, c)).any (·.1)) = 0 from by show ¬ z_g true = 0; decide)]
      simp only []
      by_cases e : r_cn a.length b.length = 0
      · rw [if_pos e, if_pos e, x_gR, f1, show (4 : Int32) = Int32.ofNat 4 from rfl, x_mul, x_add, x_aL (by omega) (by omega), ax c hc, x_gR, f1, x_mul, x_add, x_aL (by omega) (by omega), ay c hc, y_ck, x_c]
      · rw [if_neg e, if_neg e]
    | false =>
      rw [if_pos (show z_g ((some (false, c)).any (·.1)) = 0 from rfl), x_gR, f3, x_aI (by omega) (by omega), a2, x_gR, f3, x_aI (by omega) (by omega), b2]
      simp only []
      have em : (if Int32.ofNat a.length < Int32.ofNat b.length then Int32.ofNat b.length else Int32.ofNat a.length) = Int32.ofNat (max a.length b.length) := by
        have e1 : (Int32.ofNat a.length < Int32.ofNat b.length) = (a.length < b.length) := x_lt (by omega) (by omega)
        simp only [e1]
        by_cases l : a.length < b.length
        · rw [if_pos l, Nat.max_eq_right (by omega)]
        · rw [if_neg l, Nat.max_eq_left (by omega)]
      rw [em]
      exact y_ct89 R F' w3 hc _ _ _ _ _ _ _ (by omega) (by omega) (Nat.le_max_left _ _) (Nat.le_max_right _ _) (fun _ => la) (fun _ => lb) a1 b1
