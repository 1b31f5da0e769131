/-! RUNNING (engine): a row comes to a part -/
def X_fm (p n : Nat) (w w' : g_St) : Prop := (g_cnt w' = g_cnt w ∧ g_cn w' = g_cn w ∧ g_sn w' = g_sn w ∧ g_R w' = g_R w ∧ g_L w' = g_L w ∧ g_AR w' = g_AR w ∧ g_ln w' = g_ln w) ∧ (∀ k a, ¬ (k = 261 ∧ a = 64 * p + 5) → ¬ (a = 4 ∧ (k = 708 ∨ k = 1092)) → g_I w' k a = g_I w k a) ∧ (∀ a i, ¬ (a = 277 + 64 * p ∧ 4 * n ≤ i) → a ≠ 85 → g_AL w' a i = g_AL w a i) ∧ ∀ a i, ¬ ((a = 276 + 128 * p ∨ a = 340 + 128 * p) ∧ n ≤ i) → g_AI w' a i = g_AI w a i
section
variable {p n m : Nat} {w w' w'' : g_St}
theorem X_fm.re : X_fm p n w w := ⟨⟨rfl, rfl, rfl, rfl, rfl, rfl, rfl⟩, fun _ _ _ _ => rfl, fun _ _ _ _ => rfl, fun _ _ _ => rfl⟩
theorem X_fm.trans (h : X_fm p n w w') (g : X_fm p m w' w'') (l : n ≤ m) : X_fm p n w w'' := by
  obtain ⟨⟨a1, a2, a3, a4, a5, a6, a7⟩, a8, a9, a10⟩ := h
  obtain ⟨⟨b1, b2, b3, b4, b5, b6, b7⟩, b8, b9, b10⟩ := g
  exact ⟨⟨b1.trans a1, b2.trans a2, b3.trans a3, b4.trans a4, b5.trans a5, b6.trans a6, b7.trans a7⟩, fun k a h1 h2 => (b8 k a h1 h2).trans (a8 k a h1 h2), fun a i h1 h2 => (b9 a i (fun q => h1 ⟨q.1, by omega⟩) h2).trans (a9 a i h1 h2), fun a i h1 => (b10 a i (fun q => h1 ⟨q.1, by omega⟩)).trans (a10 a i h1)⟩
theorem X_fm.ag (h : X_fm p n w w') : E_ag w w' := ⟨fun a a1 a2 => ⟨fun k _ _ _ _ => h.2.1 k a (fun q => by have := q.2; omega) (fun q => by have := q.1; omega), fun k _ => by rw [h.1.2.2.2.1], fun k => by rw [h.1.2.2.2.2.1]⟩, fun a _ _ => ⟨by rw [h.1.2.2.2.2.2.1], by rw [h.1.2.2.2.2.2.2]⟩⟩
theorem X_fm.fx (h : X_fm p n w w') {q : Nat} (F : X_fx w q) : X_fx w' q := by
  unfold X_fx at *
  rw [h.1.2.2.2.1, h.1.2.2.2.2.2.2]
  exact F
theorem X_fm.sL (h : X_fm p n w w') {i : Nat} (hi : 4 * n ≤ i) (x : Int64) : X_fm p n w (g_setAL w' (277 + 64 * p) i x) := ⟨h.1, h.2.1, fun a j h1 h2 => by rw [x_AL_AL, if_neg (fun q => h1 ⟨q.1, by have := q.2; omega⟩)]; exact h.2.2.1 a j h1 h2, h.2.2.2⟩
theorem X_fm.sI (h : X_fm p n w w') {a i : Nat} (ha : a = 276 + 128 * p ∨ a = 340 + 128 * p) (hi : n ≤ i) (x : Int32) : X_fm p n w (g_setAI w' a i x) := ⟨h.1, h.2.1, h.2.2.1, fun b j h1 => by rw [x_AI_AI, if_neg (fun q => h1 ⟨by rw [q.1]; exact ha, by have := q.2; omega⟩)]; exact h.2.2.2 b j h1⟩
theorem X_fm.pI (h : X_fm p n w w') {k a : Nat} (hk : (k = 261 ∧ a = 64 * p + 5) ∨ (a = 4 ∧ (k = 708 ∨ k = 1092))) (x : Int32) : X_fm p n w (g_setI w' k a x) := ⟨h.1, fun k' a' h1 h2 => by rw [x_I_I, if_neg (fun q => by rcases hk with g | g; exact h1 ⟨by rw [q.1]; exact g.1, by rw [q.2]; exact g.2⟩; exact h2 ⟨by rw [q.2]; exact g.1, by rw [q.1]; exact g.2⟩)]; exact h.2.1 k' a' h1 h2, h.2.2.1, h.2.2.2⟩
/-- rows that are there stay -/
theorem X_rl.fm {tr : Bool} {wd : Nat} {rows : List r_Row} (R : X_rl w p tr wd rows) (hw : wd ≤ 3) (h : X_fm p rows.length w w') (hc : g_I w' 261 (64 * p + 5) = Int32.ofNat rows.length) : X_rl w' p tr wd rows := by
  obtain ⟨r1, r2, r3, r4⟩ := R
  have al : ∀ i j, i < rows.length → j ≤ 3 → g_AL w' (277 + 64 * p) (i * 4 + j) = g_AL w (277 + 64 * p) (i * 4 + j) := fun i j hi hj => h.2.2.1 _ _ (fun q => by have := q.2; omega) (by omega)
  refine ⟨hc, r2, fun i hi j hj => by rw [al i j hi (by omega)]; exact r3 i hi j hj, fun ht i hi => ?_⟩
  obtain ⟨c1, c2, c3⟩ := r4 ht i hi
  exact ⟨c1.fr (fun k j hk hj => al k j hk hj) (fun k hk => h.2.2.2 _ _ (fun q => by have := q.2; omega)) hw, by rw [h.2.2.2 _ _ (fun q => by have := q.2; omega)]; exact c2, c3⟩
/-- the rows of another relation stay -/
theorem X_rl.fo {q : Nat} {tr : Bool} {wd : Nat} {rows : List r_Row} (R : X_rl w q tr wd rows) (hw : wd ≤ 3) (hq : q < 5) (hp : p < 5) (ne : q ≠ p) (h : X_fm p n w w') : X_rl w' q tr wd rows := by
  obtain ⟨r1, r2, r3, r4⟩ := R
  have al : ∀ i j, g_AL w' (277 + 64 * q) (i * 4 + j) = g_AL w (277 + 64 * q) (i * 4 + j) := fun i j => h.2.2.1 _ _ (fun z => by have := z.1; omega) (by omega)
  refine ⟨by rw [h.2.1 _ _ (fun z => by have := z.2; omega) (fun z => by have := z.1; omega)]; exact r1, r2, fun i hi j hj => by rw [al i j]; exact r3 i hi j hj, fun ht i hi => ?_⟩
  obtain ⟨c1, c2, c3⟩ := r4 ht i hi
  exact ⟨c1.fr (fun k j hk hj => al k j) (fun k hk => h.2.2.2 _ _ (fun z => by have := z.1; omega)) hw, by rw [h.2.2.2 _ _ (fun z => by have := z.1; omega)]; exact c2, c3⟩
end
def r_mk (X : r_Pt) (own : Nat → Int64) (par : r_Row) : Int64 := match X.2.2.1 with
  | none => 0
  | some c => if (!decide (own c = r_N) && par.any fun a => decide (a c = own c)) = true then 1 else 0
/-- the row that may come -/
def r_nrow (X : r_Pt) (vals : Nat → Int64) (par : r_Row) : r_Row := if r_tr X = true then (fun j => if j = 3 then r_mk X vals par else vals j) :: par else [vals]
theorem y_grow {w : g_St} {p n : Nat} {X : r_Pt} {P : Nat} (hX : X_pt w P X) (F : X_fx w p) (hn : n ≤ 48) (hc : g_I w 261 (64 * p + 5) = Int32.ofNat n) {par : r_Row} {pi : Int32} (hp : X_ch w p n X.1 par pi) (hl : ∀ k, k < n → pi = Int32.ofNat k → g_AI w (340 + 128 * p) k = Int32.ofNat par.length) (h99 : par.length ≤ 99) {vals : Nat → Int64} (hv : ∀ j, j < X.1 → g_AL w (277 + 64 * p) (n * 4 + j) = vals j) : ∃ w', f_Rl_grow (some (64 * p + 5)) pi (z_oc X.2.2.1) w = some ((), w') ∧ X_fm p n w w' ∧ (∀ k a, g_I w' k a = g_I w k a) ∧ (∀ j, j < X.1 ∨ j = 3 → g_AL w' (277 + 64 * p) (n * 4 + j) = if j = 3 then r_mk X vals par else vals j) ∧ g_AI w' (276 + 128 * p) n = pi ∧ g_AI w' (340 + 128 * p) n = Int32.ofNat (par.length + 1) := by
  obtain ⟨p1, ⟨w3, c1, c2⟩, p3, p4, p5, p6, p7, p8, p9⟩ := hX
  obtain ⟨f1, f2, f3, f4, f5, f6⟩ := F
  have nn : ∀ k : Nat, k < 2 ^ 31 → ¬ Int32.ofNat k < 0 := fun k hk => by rw [show (0 : Int32) = Int32.ofNat 0 from rfl, x_lt (by omega) (by omega)]; omega
  obtain ⟨s3, e3⟩ : ∃ s3, s3 = g_setAI w (276 + 128 * p) n pi := ⟨_, rfl⟩
  obtain ⟨s1, e1⟩ : ∃ s1, s1 = g_setAI s3 (340 + 128 * p) n (Int32.ofNat (par.length + 1)) := ⟨_, rfl⟩
  have M1 : X_fm p n w s1 := by rw [e1, e3]; exact (X_fm.re.sI (Or.inl rfl) (Nat.le_refl _) _).sI (Or.inr rfl) (Nat.le_refl _) _
  have I1 : ∀ k a, g_I s1 k a = g_I w k a := fun k a => by rw [e1, e3]; rfl
  have R1 : ∀ k a, g_R s1 k a = g_R w k a := fun k a => by rw [e1, e3]; rfl
  have L1 : ∀ a i, g_AL s1 a i = g_AL w a i := fun a i => by rw [e1, e3]; rfl
  have N1 : ∀ a, g_ln s1 a = g_ln w a := fun a => by rw [e1, e3]; rfl
  have le1 : g_AI s1 (340 + 128 * p) n = Int32.ofNat (par.length + 1) := by rw [e1, x_AI_AI, if_pos ⟨rfl, rfl⟩]
  have pa1 : g_AI s1 (276 + 128 * p) n = pi := by rw [e1, x_AI_AI, if_neg (fun q => by have := q.1; omega), e3, x_AI_AI, if_pos ⟨rfl, rfl⟩]
  have pk1 : ∀ k, k < n → g_AI s1 (276 + 128 * p) k = g_AI w (276 + 128 * p) k := fun k hk => by rw [e1, x_AI_AI, if_neg (fun q => by have := q.1; omega), e3, x_AI_AI, if_neg (fun q => by have := q.2; omega)]
  -- the mark is laid
  have e124 : ∀ y, f_Rl_grow_124 (some (64 * p + 5)) y s1 = some ((), g_setAL s1 (277 + 64 * p) (n * 4 + 3) y) := fun y => by
    unfold f_Rl_grow_124
    rw [x_gR, R1, f1, x_gI, I1, hc, show (4 : Int32) = Int32.ofNat 4 from rfl, x_mul, show (3 : Int32) = Int32.ofNat 3 from rfl, x_add, x_sL (by omega) (by rw [N1]; omega)]
  have fin : ∀ y, y = r_mk X vals par → ∃ w', some ((), g_setAL s1 (277 + 64 * p) (n * 4 + 3) y) = some ((), w') ∧ X_fm p n w w' ∧ (∀ k a, g_I w' k a = g_I w k a) ∧ (∀ j, j < X.1 ∨ j = 3 → g_AL w' (277 + 64 * p) (n * 4 + j) = if j = 3 then r_mk X vals par else vals j) ∧ g_AI w' (276 + 128 * p) n = pi ∧ g_AI w' (340 + 128 * p) n = Int32.ofNat (par.length + 1) := by
    intro y hy
    refine ⟨_, rfl, M1.sL (by omega) _, fun k a => I1 k a, fun j hj => ?_, pa1, le1⟩
    rw [x_AL_AL]
    by_cases e : j = 3
    · rw [if_pos ⟨rfl, by rw [e]⟩, if_pos e, hy]
    · rw [if_neg (fun q => by have := q.2; omega), if_neg e, L1]
      exact hv j (by omega)
  -- up to the ancestors
  have e34 : ∃ w', f_Rl_grow_34 (some (64 * p + 5)) pi (z_oc X.2.2.1) (some (340 + 128 * p)) (Int32.ofNat n) (Int32.ofNat (par.length + 1)) s3 = some ((), w') ∧ X_fm p n w w' ∧ (∀ k a, g_I w' k a = g_I w k a) ∧ (∀ j, j < X.1 ∨ j = 3 → g_AL w' (277 + 64 * p) (n * 4 + j) = if j = 3 then r_mk X vals par else vals j) ∧ g_AI w' (276 + 128 * p) n = pi ∧ g_AI w' (340 + 128 * p) n = Int32.ofNat (par.length + 1) := by
    unfold f_Rl_grow_34
    rw [x_sI (by omega) (by rw [e3]; show n < g_ln w _; omega), ← e1]
    cases hx : X.2.2.1 with
    | none =>
      rw [if_pos (show z_oc none < 0 from by decide), e124]
      exact fin 0 (by unfold r_mk; rw [hx])
    | some c =>
      have hc' := c2 c hx
      have key : ∀ (s : r_Row) (i : Int32) (y : Int64) (f : Nat), s.length ≤ par.length → s.length < f → X_ch w p n X.1 s i → f_Rl_grow_62 f (some (64 * p + 5)) (Int32.ofNat c) y (vals c) i (Int32.ofNat (par.length + 1 - s.length)) s1 = some ((), g_setAL s1 (277 + 64 * p) (n * 4 + 3) (if (!decide (vals c = r_N) && s.any fun a => decide (a c = vals c)) = true then 1 else y)) := by
        intro s
        induction s with
        | nil =>
          intro i y f e2 e4 h
          obtain ⟨f, rfl⟩ : ∃ m, f = m + 1 := ⟨f - 1, by omega⟩
          rw [f_Rl_grow_62, x_gR, R1, f3, x_gI, I1, hc, x_aI (by omega) (by rw [N1]; omega), le1, if_pos (by rw [List.length_nil, x_le (by omega) (by omega)]; omega), e124, List.any_nil, Bool.and_false, if_neg (by decide)]
        | cons a s ih =>
          intro i y f e2 e4 h
          obtain ⟨f, rfl⟩ : ∃ m, f = m + 1 := ⟨f - 1, by omega⟩
          rw [List.length_cons] at e2 e4
          obtain ⟨k, k1, k2, k3, k4⟩ := h
          have nx : ∀ y', f_Rl_grow_62 f (some (64 * p + 5)) (Int32.ofNat c) y' (vals c) (g_AI s1 (276 + 128 * p) k) (Int32.ofNat (par.length + 1 - (s.length + 1)) + 1) s1 = some ((), g_setAL s1 (277 + 64 * p) (n * 4 + 3) (if (!decide (vals c = r_N) && s.any fun a => decide (a c = vals c)) = true then 1 else y')) := fun y' => by
            rw [x_p1, show par.length + 1 - (s.length + 1) + 1 = par.length + 1 - s.length by omega, pk1 k k1]
            exact ih _ y' f (by omega) (by omega) k4
          rw [f_Rl_grow_62, x_gR, R1, f3, x_gI, I1, hc, x_aI (by omega) (by rw [N1]; omega), le1, if_neg (by rw [List.length_cons, x_le (by omega) (by omega)]; omega), k2, if_neg (nn k (by omega)), List.any_cons, List.length_cons]
          by_cases w1 : vals c = r_N
          · rw [if_pos w1, x_gR, R1, f2, x_aI (by omega) (by rw [N1]; omega), nx, decide_eq_true w1]
            rfl
          · rw [if_neg w1, x_gR, R1, f1, show (4 : Int32) = Int32.ofNat 4 from rfl, x_mul, x_add, x_aL (by omega) (by rw [N1]; omega), L1, k3 c (Or.inl hc')]
            by_cases w2 : a c = vals c
            · rw [if_pos w2, x_gR, R1, f2, x_aI (by omega) (by rw [N1]; omega), nx, decide_eq_true w2, decide_eq_false w1, Bool.true_or]
              simp
            · rw [if_neg w2, x_gR, R1, f2, x_aI (by omega) (by rw [N1]; omega), nx, decide_eq_false w2, Bool.false_or]
      have k0 := key par pi 0 200000 (Nat.le_refl _) (by omega) hp
      rw [show par.length + 1 - par.length = 1 by omega] at k0
      rw [if_neg (show ¬ z_oc (some c) < 0 from nn c (by omega)), x_gR, R1, f1, x_gI, I1, hc, show z_oc (some c) = Int32.ofNat c from rfl, show (4 : Int32) = Int32.ofNat 4 from rfl, x_mul, x_add, x_aL (by omega) (by rw [N1]; omega), L1, hv c hc']
      have k1 : f_Rl_grow_62 200000 (some (64 * p + 5)) (Int32.ofNat c) 0 (vals c) pi 1 s1 = _ := k0
      rw [k1]
      exact fin _ (by unfold r_mk; rw [hx])
  obtain ⟨w', g1, g2⟩ := e34
  refine ⟨w', ?_, g2⟩
  unfold f_Rl_grow
  rw [x_gR, f2, x_gI, hc, x_sI (by omega) (by omega), ← e3, x_gR, show g_R s3 197 (64 * p + 5) = some (340 + 128 * p) from (by rw [e3]; exact f3), x_gI, show g_I s3 261 (64 * p + 5) = Int32.ofNat n from (by rw [e3]; exact hc)]
  cases par with
  | nil =>
    have e : pi = -1 := hp
    rw [e, if_neg (by decide)]
    rw [e] at g1
    exact g1
  | cons a s =>
    obtain ⟨k, k1, k2, k3, k4⟩ := hp
    have hk := hl k k1 k2
    rw [k2, if_pos (show (0 : Int32) ≤ Int32.ofNat k from by rw [show (0 : Int32) = Int32.ofNat 0 from rfl, x_le (by omega) (by omega)]; omega), x_gR, show g_R s3 197 (64 * p + 5) = some (340 + 128 * p) from (by rw [e3]; exact f3), x_aI (by omega) (by rw [e3]; show k < g_ln w _; omega), show g_AI s3 (340 + 128 * p) k = Int32.ofNat (a :: s).length from (by rw [e3, x_AI_AI, if_neg (fun q => by have := q.1; omega)]; exact hk), x_p1]
    rw [k2] at g1
    exact g1
