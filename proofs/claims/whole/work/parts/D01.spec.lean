/-! RUNNING, in plain lists: values, comparisons, conditions -/
abbrev r_Op : Type := Bool × (Int64 ⊕ (Nat × Nat))
abbrev r_Cp : Type := List r_Op × Nat × List r_Op
abbrev r_Cd : Type := r_Cp ⊕ ((Nat ⊕ Nat) × List r_Cp)
abbrev r_N : Int64 := 1099511627776
def r_op0 : r_Op := (false, .inl 0)
def r_cp0 : r_Cp := ([], 0, [])
def r_cd0 : r_Cd := .inl r_cp0
def r_op (env : Nat → Nat → Int64) (o : r_Op) : Int64 := match o.2 with
  | .inl v => v
  | .inr q => env q.1 q.2
def r_go (env : Nat → Nat → Int64) : List r_Op → Int64 → Int64
  | [], v => v
  | o :: l, v => if r_op env o = r_N then r_N else r_go env l (if o.1 = true then v - r_op env o else v + r_op env o)
def r_val (env : Nat → Nat → Int64) (l : List r_Op) : Int64 := r_go env l 0
def r_cmp (k : Nat) (l r : Int64) : Bool := if l = r_N then false else if r = r_N then false else if k = 31 then decide (l = r) else if k = 35 then !decide (l = r) else if k = 32 then !decide (r ≤ l) else if k = 33 then !decide (l ≤ r) else false
def r_cp (env : Nat → Nat → Int64) (c : r_Cp) : Bool := if c.2.1 = 9 then decide (r_val env c.1 = r_N) else r_cmp c.2.1 (r_val env c.1) (r_val env c.2.2)
def r_up (env : Nat → Nat → Int64) (k : Nat) (row : Nat → Int64) : Nat → Nat → Int64 := fun j => if j = k then row else env j
def r_cd (tb : (Nat ⊕ Nat) → List (Nat → Int64)) (env : Nat → Nat → Int64) (c : r_Cd) : Bool := match c with
  | .inl b => r_cp env b
  | .inr z => !((tb z.1).any fun row => z.2.all (r_cp (r_up env 3 row)))
/-- what is used of an expression -/
def r_us (D : Nat → Nat → Prop) (l : List r_Op) : Prop := ∀ o ∈ l, ∀ k i, o.2 = .inr (k, i) → D k i
def r_ucp (D : Nat → Nat → Prop) (c : r_Cp) : Prop := r_us D c.1 ∧ (c.2.1 ≠ 9 → r_us D c.2.2)
theorem r_go_cg {env env' : Nat → Nat → Int64} {D : Nat → Nat → Prop} (h : ∀ k i, D k i → env k i = env' k i) : ∀ (l : List r_Op) (v : Int64), r_us D l → r_go env l v = r_go env' l v := by
  intro l
  induction l with
  | nil => intro v _; rfl
  | cons o l ih =>
    intro v hu
    have e : r_op env o = r_op env' o := by
      unfold r_op
      cases ho : o.2 with
      | inl x => rfl
      | inr q => exact h q.1 q.2 (hu o (List.mem_cons_self ..) q.1 q.2 ho)
    rw [r_go, r_go, e]
    by_cases w : r_op env' o = r_N
    · rw [if_pos w, if_pos w]
    · rw [if_neg w, if_neg w]
      exact ih _ (fun o' ho' => hu o' (List.mem_cons_of_mem _ ho'))
theorem r_val_cg {env env' : Nat → Nat → Int64} {D : Nat → Nat → Prop} (h : ∀ k i, D k i → env k i = env' k i) {l : List r_Op} (hu : r_us D l) : r_val env l = r_val env' l := r_go_cg h l 0 hu
theorem r_cp_cg {env env' : Nat → Nat → Int64} {D : Nat → Nat → Prop} (h : ∀ k i, D k i → env k i = env' k i) {c : r_Cp} (hu : r_ucp D c) : r_cp env c = r_cp env' c := by
  unfold r_cp
  rw [r_val_cg h hu.1]
  by_cases w : c.2.1 = 9
  · rw [if_pos w, if_pos w]
  · rw [if_neg w, if_neg w, r_val_cg h (hu.2 w)]
/-! THE ENGINE: values of terms -/
def X_op (w : g_St) (so : Nat → Option Nat) (t : Nat) (o : r_Op) : Prop := g_I w 11 t = z_g o.1 ∧ match o.2 with
  | .inl v => g_R w 523 t = none ∧ g_L w 267 t = v
  | .inr q => ∃ r, so q.1 = some r ∧ g_R w 523 t = some r ∧ g_I w 587 t = Int32.ofNat q.2 ∧ q.2 ≤ 3
def X_ex (w : g_St) (so : Nat → Option Nat) (i : Nat) (L : List r_Op) : Prop := 1 ≤ L.length ∧ L.length ≤ 205 ∧ ∀ j, j < L.length → X_op w so ((i + j) * 64 + 11) (L.getD j r_op0) ∧ g_R w 651 ((i + j) * 64 + 11) = if j + 1 < L.length then some ((i + j + 1) * 64 + 11) else none
/-- a slot has a row -/
def X_bd (w : g_St) (so : Nat → Option Nat) (env : Nat → Nat → Int64) (k : Nat) (V : Nat → Prop) : Prop := ∃ r rel cl x, so k = some r ∧ g_R w 521 r = some rel ∧ g_R w 69 rel = some cl ∧ g_I w 713 r = Int32.ofNat x ∧ (x < 60 ∧ 277 ≤ cl) ∧ 4 * x + 4 ≤ g_ln w cl ∧ ∀ i, V i → g_AL w cl (x * 4 + i) = env k i
theorem y_val {w : g_St} {so : Nat → Option Nat} {i : Nat} {L : List r_Op} (h : X_ex w so i L) {env : Nat → Nat → Int64} {D : Nat → Nat → Prop} (hu : r_us D L) (hb : ∀ k j, D k j → X_bd w so env k (D k)) : f_Te_value (some (i * 64 + 11)) w = some (r_val env L, w) := by
  obtain ⟨h1, h4, hj⟩ := h
  have key : ∀ (d j f : Nat) (v : Int64), j + d = L.length → d < f → f_Te_value_4 f v (if j < L.length then some ((i + j) * 64 + 11) else none) w = some (r_go env (L.drop j) v, w) := by
    intro d
    induction d with
    | zero =>
      intro j f v e1 e2
      obtain ⟨f, rfl⟩ : ∃ m, f = m + 1 := ⟨f - 1, by omega⟩
      rw [if_neg (by omega), f_Te_value_4, if_pos rfl, List.drop_eq_nil_of_le (by omega)]
      rfl
    | succ d ih =>
      intro j f v e1 e2
      obtain ⟨f, rfl⟩ : ∃ m, f = m + 1 := ⟨f - 1, by omega⟩
      have lt : j < L.length := by omega
      obtain ⟨⟨o1, o2⟩, nx⟩ := hj j lt
      have hd : L.drop j = L.getD j r_op0 :: L.drop (j + 1) := by
        rw [List.getD_eq_getElem?_getD, List.getElem?_eq_getElem lt]
        exact List.drop_eq_getElem_cons lt
      have hm : L.getD j r_op0 ∈ L := z_getD_m lt
      generalize L.getD j r_op0 = o at o1 o2 hd hm
      have fin : ∀ y, y = r_op env o → f_Te_value_47 (f_Te_value_4 f) v (some ((i + j) * 64 + 11)) y w = some (r_go env (L.drop j) v, w) := by
        intro y hy
        unfold f_Te_value_47
        rw [hd, r_go, ← hy]
        by_cases w1 : y = r_N
        · rw [if_pos w1, if_pos w1]
        · rw [if_neg w1, if_neg w1, x_gI, o1]
          have n1 := ih (j + 1) f (v + y) (by omega) (by omega)
          have n2 := ih (j + 1) f (v - y) (by omega) (by omega)
          rw [x_gR, nx, show i + j + 1 = i + (j + 1) from rfl]
          cases o.1 with
          | false => rw [if_pos (show z_g false = 0 from rfl), if_neg (show ¬ false = true from by decide)]; exact n1
          | true => rw [if_neg (show ¬ z_g true = 0 from by decide), if_pos (show true = true from rfl), x_gR, nx, show i + j + 1 = i + (j + 1) from rfl]; exact n2
      rw [if_pos lt, f_Te_value_4, if_neg (Option.some_ne_none _), x_gR]
      cases ho : o.2 with
      | inl x =>
        rw [ho] at o2
        rw [o2.1, if_pos rfl, x_gL, o2.2]
        exact fin x (by unfold r_op; rw [ho])
      | inr q =>
        rw [ho] at o2
        obtain ⟨r, s1, s2, s3, s4⟩ := o2
        have hD := hu o hm q.1 q.2 ho
        obtain ⟨r', rel, cl, x, b1, b2, b3, b4, b5, b6, b7⟩ := hb q.1 q.2 hD
        rw [s1] at b1
        cases b1
        rw [s2, if_neg (Option.some_ne_none _), x_gR, s2, x_gR, b2, x_gR, b3, x_gR, s2, x_gI, b4, x_gI, s3, show (4 : Int32) = Int32.ofNat 4 from rfl, x_mul, x_add, x_aL (by omega) (by omega), b7 q.2 hD]
        exact fin _ (by unfold r_op; rw [ho])
  have k0 := key L.length 0 200000 0 (by omega) (by omega)
  rw [if_pos (by omega), List.drop_zero, Nat.add_zero] at k0
  exact k0
/-- a comparison -/
def X_cp (w : g_St) (so : Nat → Option Nat) (co : Nat) (c : r_Cp) : Prop := ∃ i, g_R w 74 co = some (i * 64 + 11) ∧ X_ex w so i c.1 ∧ g_R w 10 co = some (c.2.1 * 64 + 13) ∧ (c.2.1 = 9 ∨ ((c.2.1 = 31 ∨ c.2.1 = 32 ∨ c.2.1 = 33 ∨ c.2.1 = 35) ∧ ∃ i', g_R w 138 co = some (i' * 64 + 11) ∧ X_ex w so i' c.2.2))
theorem y_ord {w : g_St} {k : Nat} (hk : k < 40) : f_En_ordinal (some (k * 64 + 13)) w = some (Int32.ofNat k, w) := by
  unfold f_En_ordinal
  show some (Int32.ofNat ((k * 64 + 13) / 64), w) = _
  rw [show (k * 64 + 13) / 64 = k by omega]
theorem y_c52 {w : g_St} {co k : Nat} (hk : k = 31 ∨ k = 32 ∨ k = 33 ∨ k = 35) (h : g_R w 10 co = some (k * 64 + 13)) (l r : Int64) : f_Ru_compares_52 (some co) l r w = some (z_g (r_cmp k l r), w) := by
  have z0 : g_rZ 0 (some ((0 : Int32), w)) = some (z_g false, w) := rfl
  have z1 : g_rZ 1 (some ((1 : Int32), w)) = some (z_g true, w) := rfl
  unfold f_Ru_compares_52 r_cmp
  by_cases a : l = r_N
  · rw [if_pos (show l = 1099511627776 from a), if_pos a]; rfl
  · rw [if_neg (show ¬ l = 1099511627776 from a), if_neg a]
    by_cases b : r = r_N
    · rw [if_pos (show r = 1099511627776 from b), if_pos b]; rfl
    · rw [if_neg (show ¬ r = 1099511627776 from b), if_neg b, x_gR, h, x_nn, y_ord (by omega), x_c, z0, z1]
      have sw : ∀ (k : Nat) (c : Int32), k < 40 → g_swt.getD k 0 = c → ∀ F : Int32 → Option (Int32 × g_St), g_swl (some 40) (Int32.ofNat k) F = F c := fun k c h1 h2 F => by
        unfold g_swl
        simp only []
        rw [Int32.toNatClampNeg_ofNat_of_lt (by omega), if_neg (fun q => by
          rcases q with q | q
          · rw [show (0 : Int32) = Int32.ofNat 0 from rfl, x_lt (by omega) (by omega)] at q; omega
          · omega), h2]
      have n31 : ∀ a b : Nat, a ≠ b → ¬ a = b := fun _ _ h => h
      rcases hk with e | e | e | e
      · rw [e, sw 31 1 (by decide) rfl, if_pos (show (1 : Int32) = 1 from rfl), if_pos (show (31 : Nat) = 31 from rfl)]
        by_cases c : l = r
        · rw [if_pos c, decide_eq_true c]
        · rw [if_neg c, decide_eq_false c]
      · rw [e, sw 32 3 (by decide) rfl, if_neg (show ¬ (3 : Int32) = 1 from by decide), if_neg (show ¬ (3 : Int32) = 2 from by decide), if_pos (show (3 : Int32) = 3 from rfl), if_neg (show ¬ (32 : Nat) = 31 from by decide), if_neg (show ¬ (32 : Nat) = 35 from by decide), if_pos (show (32 : Nat) = 32 from rfl)]
        by_cases c : r ≤ l
        · rw [if_pos c, decide_eq_true c]; rfl
        · rw [if_neg c, decide_eq_false c]; rfl
      · rw [e, sw 33 4 (by decide) rfl, if_neg (show ¬ (4 : Int32) = 1 from by decide), if_neg (show ¬ (4 : Int32) = 2 from by decide), if_neg (show ¬ (4 : Int32) = 3 from by decide), if_pos (show (4 : Int32) = 4 from rfl), if_neg (show ¬ (33 : Nat) = 31 from by decide), if_neg (show ¬ (33 : Nat) = 35 from by decide), if_neg (show ¬ (33 : Nat) = 32 from by decide), if_pos (show (33 : Nat) = 33 from rfl)]
        by_cases c : l ≤ r
        · rw [if_pos c, decide_eq_true c]; rfl
        · rw [if_neg c, decide_eq_false c]; rfl
      · rw [e, sw 35 2 (by decide) rfl, if_neg (show ¬ (2 : Int32) = 1 from by decide), if_pos (show (2 : Int32) = 2 from rfl), if_neg (show ¬ (35 : Nat) = 31 from by decide), if_pos (show (35 : Nat) = 35 from rfl)]
        by_cases c : l = r
        · rw [if_pos c, decide_eq_true c]; rfl
        · rw [if_neg c, decide_eq_false c]; rfl
theorem y_cp {w : g_St} {so : Nat → Option Nat} {co : Nat} {c : r_Cp} (h : X_cp w so co c) {env : Nat → Nat → Int64} {D : Nat → Nat → Prop} (hu : r_ucp D c) (hb : ∀ k j, D k j → X_bd w so env k (D k)) : f_Ru_compares (some co) w = some (z_g (r_cp env c), w) := by
  obtain ⟨i, h1, h2, h3, h4⟩ := h
  unfold f_Ru_compares r_cp
  rw [x_gR, h1, x_nn, y_val h2 hu.1 hb, x_c, x_gR, h3]
  rcases h4 with e | ⟨e, i', e1, e2⟩
  · rw [if_pos (by rw [e]), if_pos e]
    by_cases c : r_val env c.1 = r_N
    · rw [if_pos (show _ = (1099511627776 : Int64) from c), decide_eq_true c]; rfl
    · rw [if_neg (show ¬ _ = (1099511627776 : Int64) from c), decide_eq_false c]; rfl
  · have ne : ¬ c.2.1 = 9 := by omega
    rw [if_neg (fun q => ne (by have := Option.some.inj q; omega)), if_neg ne, x_gR, e1, if_neg (Option.some_ne_none _), x_gR, e1, x_nn, y_val e2 (hu.2 ne) hb, x_c]
    exact y_c52 e h3 _ _
