/-! RUNNING (engine): a combination is gathered -/
theorem X_bd.gf {w w' : g_St} {so : Nat → Option Nat} {env : Nat → Nat → Int64} {k : Nat} {V : Nat → Prop} (h : X_bd w so env k V) (hso : ∀ r, so k = some r → r % 64 = 9) (f : X_gf w w') : X_bd w' so env k V := by
  obtain ⟨r, rel, cl, x, b1, b2, b3, b4, b5, b6, b7⟩ := h
  have := hso r b1
  exact ⟨r, rel, cl, x, b1, by rw [f.1.2.2.2.1]; exact b2, by rw [f.1.2.2.2.1]; exact b3, by rw [f.2.1 _ _ (fun q => by have := q.1; omega)]; exact b4, b5, by rw [f.1.2.2.2.2.2.2]; exact b6, fun i hi => by rw [f.2.2.1 _ _ (by omega)]; exact b7 i hi⟩
def r_gfd (its : List r_It) (iv : Nat → Int64) (gs : List r_Gp) : Option Nat := z_ff (fun g => r_eqg its iv (gs.getD g r_gp0)) gs.length 0
theorem y_fg {w : g_St} {S : Nat} {so : Nat → Option Nat} {its : List r_It} (rn : X_rn w S) (hit : X_it w so S its) {N al : Nat} {gs : List r_Gp} (hg : X_gr w its.length N gs) (hal : g_I w 644 4 = Int32.ofNat al) (al48 : al ≤ 48) {iv : Nat → Int64} (hv : ∀ i, i < its.length → (its.getD i r_it0).1 = 0 → g_AL w 149 i = iv i) : ∃ w', X_gf w w' ∧ (match r_gfd its iv gs with | some g => f_Ru_findGroup (some 4) w = some (Int32.ofNat g, w') ∧ w' = w | none => if gs.length < al then f_Ru_findGroup (some 4) w = some (Int32.ofNat gs.length, w') ∧ g_I w' 1028 4 = g_I w 1028 4 ∧ X_gr w' its.length N (gs ++ [r_g1 its iv]) else f_Ru_findGroup (some 4) w = some (-1, w') ∧ w' = g_setI w 1028 4 1) := by
  have rn' := rn
  have hit' := hit
  have hg' := hg
  obtain ⟨r1, r2, r3, r4, r5, r6, r7⟩ := rn
  obtain ⟨h1, h2, h3, G, I, g1, g2, g3, g4, g5, g6, g7⟩ := hit
  obtain ⟨a1, a2, a3⟩ := hg
  -- one group
  have one : ∀ (k2 : Option Nat → Int32 → g_St → Option (Int32 × g_St)) (g : Nat), g < gs.length → f_Ru_findGroup_14 k2 200000 (some 4) (Int32.ofNat g) 1 0 w = f_Ru_findGroup_73 k2 (some 4) (Int32.ofNat g) (z_g (r_eqg its iv (gs.getD g r_gp0))) w := by
    intro k2 g hgl
    have key : ∀ (d i f : Nat) (b : Bool), i + d = its.length → d < f → f_Ru_findGroup_14 k2 f (some 4) (Int32.ofNat g) (z_g b) (Int32.ofNat i) w = f_Ru_findGroup_73 k2 (some 4) (Int32.ofNat g) (z_g (b && (List.range' i d).all fun i => !decide ((its.getD i r_it0).1 = 0) || decide ((gs.getD g r_gp0).1 i = iv i))) w := by
      intro d
      induction d with
      | zero =>
        intro i f b e1 e2
        obtain ⟨f, rfl⟩ : ∃ m, f = m + 1 := ⟨f - 1, by omega⟩
        rw [f_Ru_findGroup_14, x_gR, r1, x_gI, h2, if_pos (by rw [x_le (by omega) (by omega)]; omega)]
        show _ = f_Ru_findGroup_73 _ _ _ (z_g (b && true)) w
        rw [Bool.and_true]
      | succ d ih =>
        intro i f b e1 e2
        obtain ⟨f, rfl⟩ : ∃ m, f = m + 1 := ⟨f - 1, by omega⟩
        rw [f_Ru_findGroup_14, x_gR, r1, x_gI, h2, if_neg (by rw [x_le (by omega) (by omega)]; omega), List.range'_succ, List.all_cons]
        cases b with
        | false => rw [if_pos (show z_g false = 0 from rfl), Bool.false_and]
        | true =>
          rw [if_neg (show ¬ z_g true = 0 from by decide), x_gR, r1, x_gR, g1, x_aR (by omega) (by omega), Bool.true_and]
          rcases (g7 i (by omega)).1 with ⟨k1, k3⟩ | ⟨k1, k3⟩
          · rw [k3, if_pos rfl, x_gR, r4, show (4 : Int32) = Int32.ofNat 4 from rfl, x_mul, x_add, x_aL (by omega) (by omega), (a3 g hgl i (by omega)).1, x_gR, r2, x_aL (by omega) (by omega), hv i (by omega) k1, decide_eq_true k1, Bool.not_true, Bool.false_or]
            by_cases e : (gs.getD g r_gp0).1 i = iv i
            · rw [if_pos e, decide_eq_true e, x_p1, Bool.true_and]
              have := ih (i + 1) f true (by omega) (by omega)
              rw [Bool.true_and] at this
              exact this
            · rw [if_neg e, decide_eq_false e, x_p1, Bool.false_and]
              have := ih (i + 1) f false (by omega) (by omega)
              rw [Bool.false_and] at this
              exact this
          · rw [k3, if_neg (Option.some_ne_none _), decide_eq_false (by omega), Bool.not_false, Bool.true_or, Bool.true_and, x_p1]
            have := ih (i + 1) f true (by omega) (by omega)
            rw [Bool.true_and] at this
            exact this
    have k0 := key its.length 0 200000 true (by omega) (by omega)
    rw [Bool.true_and, show List.range' 0 its.length = List.range its.length from List.range_eq_range'.symm] at k0
    exact k0
  have stop : ∀ f, f_Ru_findGroup_2 (f + 1) (some 4) (Int32.ofNat gs.length) w = if Int32.ofNat gs.length < Int32.ofNat al then g_c (g_nn (some 4) (f_Ru_addGroup (some 4) w)) fun _ s5 => g_gI s5 964 (some 4) fun i6 => some (i6 - 1, s5) else g_pZ w 1028 (some 4) 1 fun s7 => some (-1, s7) := fun f => by
    rw [f_Ru_findGroup_2, x_gI, a1, if_pos (by rw [x_le (by omega) (by omega)]; exact Nat.le_refl _), x_gI, a1, x_gI, hal]
  have all : ∀ (d g f : Nat), g + d = gs.length → d < f → f_Ru_findGroup_2 f (some 4) (Int32.ofNat g) w = match z_ff (fun g => r_eqg its iv (gs.getD g r_gp0)) d g with | some g => some (Int32.ofNat g, w) | none => f_Ru_findGroup_2 1 (some 4) (Int32.ofNat gs.length) w := by
    intro d
    induction d with
    | zero =>
      intro g f e1 e2
      obtain ⟨f, rfl⟩ : ∃ m, f = m + 1 := ⟨f - 1, by omega⟩
      rw [show g = gs.length by omega, stop f]
      exact (stop 0).symm
    | succ d ih =>
      intro g f e1 e2
      obtain ⟨f, rfl⟩ : ∃ m, f = m + 1 := ⟨f - 1, by omega⟩
      rw [f_Ru_findGroup_2, x_gI, a1, if_neg (by rw [x_le (by omega) (by omega)]; omega), one _ g (by omega), z_ff]
      unfold f_Ru_findGroup_73
      cases r_eqg its iv (gs.getD g r_gp0) with
      | true => rw [if_neg (show ¬ z_g true = 0 from by decide), if_pos rfl]
      | false => rw [if_pos (show z_g false = 0 from rfl), if_neg (by decide), x_p1]; exact ih (g + 1) f (by omega) (by omega)
  have k0 := all gs.length 0 200000 (by omega) (by omega)
  unfold r_gfd
  cases hz : z_ff (fun g => r_eqg its iv (gs.getD g r_gp0)) gs.length 0 with
  | some g =>
    rw [hz] at k0
    exact ⟨w, X_gf.re, k0, rfl⟩
  | none =>
    rw [hz] at k0
    have k1 : f_Ru_findGroup (some 4) w = f_Ru_findGroup_2 1 (some 4) (Int32.ofNat gs.length) w := k0
    rw [stop 0] at k1
    by_cases lt : gs.length < al
    · obtain ⟨w', b1, b2, b3, b4⟩ := y_addg rn' hit' hg' (by omega) hv
      refine ⟨w', b2, ?_⟩
      simp only []
      rw [if_pos lt]
      refine ⟨?_, b3, b4⟩
      rw [k1, if_pos (by rw [x_lt (by omega) (by omega)]; exact lt), x_nn, b1, x_c, x_gI, b4.1, List.length_append, List.length_singleton, x_m1]
    · refine ⟨g_setI w 1028 4 1, X_gf.re.pI (Or.inr rfl) _, ?_⟩
      simp only []
      rw [if_neg lt]
      refine ⟨?_, trivial⟩
      rw [k1, if_neg (by rw [x_lt (by omega) (by omega)]; exact lt), show g_pZ w 1028 (some 4) 1 = g_pZ w 1028 (some 4) (z_g true) from rfl, x_pZ]
      rfl
theorem y_addto {w : g_St} {S : Nat} (rn : X_rn w S) {at' k : Nat} (ha : at' < 192) (hk : k = 21 ∨ k = 22 ∨ k = 23) {g : Int64 × Bool} {c N : Nat} (h1 : g_AL w 213 at' = g.1) (h2 : g_AI w 212 at' = Int32.ofNat c) (h3 : c ≤ N) (h4 : g.2 = true ↔ 0 < c) (hN : N < 2 ^ 30) (v : Int64) : ∃ w', f_Ru_addTo (some 4) (Int32.ofNat at') (some (k * 64 + 13)) v w = some ((), w') ∧ X_gf w w' ∧ g_I w' = g_I w ∧ (∀ j, j ≠ at' → g_AL w' 213 j = g_AL w 213 j ∧ g_AI w' 212 j = g_AI w 212 j) ∧ g_AL w' 213 at' = (r_add k g v).1 ∧ ∃ c', g_AI w' 212 at' = Int32.ofNat c' ∧ c' ≤ N + 1 ∧ ((r_add k g v).2 = true ↔ 0 < c') := by
  obtain ⟨r1, r2, r3, r4, r5, r6, r7⟩ := rn
  unfold f_Ru_addTo r_add
  by_cases n0 : v = r_N
  · rw [if_pos n0, if_pos n0]
    exact ⟨w, rfl, X_gf.re, rfl, fun _ _ => ⟨rfl, rfl⟩, h1, c, h2, by omega, h4⟩
  · rw [if_neg n0, if_neg n0]
    have fin : ∀ y, X_gf w (g_setAI (g_setAL w 213 at' y) 212 at' (Int32.ofNat (c + 1))) ∧ g_I (g_setAI (g_setAL w 213 at' y) 212 at' (Int32.ofNat (c + 1))) = g_I w ∧ (∀ j, j ≠ at' → g_AL (g_setAI (g_setAL w 213 at' y) 212 at' (Int32.ofNat (c + 1))) 213 j = g_AL w 213 j ∧ g_AI (g_setAI (g_setAL w 213 at' y) 212 at' (Int32.ofNat (c + 1))) 212 j = g_AI w 212 j) ∧ g_AL (g_setAI (g_setAL w 213 at' y) 212 at' (Int32.ofNat (c + 1))) 213 at' = y ∧ ∃ c', g_AI (g_setAI (g_setAL w 213 at' y) 212 at' (Int32.ofNat (c + 1))) 212 at' = Int32.ofNat c' ∧ c' ≤ N + 1 ∧ (true = true ↔ 0 < c') := by
      intro y
      refine ⟨(X_gf.re.sL _ _).sI _ _, rfl, fun j hj => ⟨?_, ?_⟩, ?_, c + 1, ?_, by omega, ⟨fun _ => by omega, fun _ => rfl⟩⟩
      · show g_AL (g_setAL w 213 at' y) 213 j = _
        rw [x_AL_AL, if_neg (fun q => hj q.2)]
      · rw [x_AI_AI, if_neg (fun q => hj q.2)]; rfl
      · show g_AL (g_setAL w 213 at' y) 213 at' = _
        rw [x_AL_AL, if_pos ⟨rfl, rfl⟩]
      · rw [x_AI_AI, if_pos ⟨rfl, rfl⟩]
    have cnt : ∀ y, (g_gR (g_setAL w 213 at' y) 388 (some 4) fun p => g_aI (g_setAL w 213 at' y) p (Int32.ofNat at') fun i => g_sI (g_setAL w 213 at' y) p (Int32.ofNat at') (i + 1) fun s => some ((), s)) = some ((), g_setAI (g_setAL w 213 at' y) 212 at' (Int32.ofNat (c + 1))) := by
      intro y
      rw [x_gR, show g_R (g_setAL w 213 at' y) 388 4 = some 212 from r6, x_aI (by omega) (by show _ < g_ln w 212; omega), show g_AI (g_setAL w 213 at' y) 212 at' = Int32.ofNat c from h2, x_p1, x_sI (by omega) (by show _ < g_ln w 212; omega)]
    rcases hk with e | e | e
    · rw [e, if_pos rfl, if_pos rfl, x_gR, r4, x_aL (by omega) (by omega), h1, x_sL (by omega) (by omega), cnt]
      exact ⟨_, rfl, fin _⟩
    · rw [e, if_neg (by decide), if_neg (show ¬ (22 : Nat) = 21 from by decide), x_gR, r6, x_aI (by omega) (by omega), h2]
      cases hg2 : g.2 with
      | false =>
        have c0 : c = 0 := by
          by_cases q : 0 < c
          · have := h4.mpr q; rw [hg2] at this; cases this
          · omega
        rw [if_pos (by rw [c0]; rfl), if_pos rfl, x_gR, r4, x_sL (by omega) (by omega), cnt]
        exact ⟨_, rfl, fin _⟩
      | true =>
        have cp : 0 < c := h4.mp hg2
        rw [if_neg (by rw [show (0 : Int32) = Int32.ofNat 0 from rfl, x_eq (by omega) (by omega)]; omega), if_neg (by decide), if_pos (show (22 : Nat) = 22 from rfl), x_gR, r4, if_pos rfl, x_gR, r4, x_aL (by omega) (by omega), h1, x_sL (by omega) (by omega), cnt]
        exact ⟨_, rfl, fin _⟩
    · rw [e, if_neg (by decide), if_neg (show ¬ (23 : Nat) = 21 from by decide), x_gR, r6, x_aI (by omega) (by omega), h2]
      cases hg2 : g.2 with
      | false =>
        have c0 : c = 0 := by
          by_cases q : 0 < c
          · have := h4.mpr q; rw [hg2] at this; cases this
          · omega
        rw [if_pos (by rw [c0]; rfl), if_pos rfl, x_gR, r4, x_sL (by omega) (by omega), cnt]
        exact ⟨_, rfl, fin _⟩
      | true =>
        have cp : 0 < c := h4.mp hg2
        rw [if_neg (by rw [show (0 : Int32) = Int32.ofNat 0 from rfl, x_eq (by omega) (by omega)]; omega), if_neg (by decide), if_neg (show ¬ (23 : Nat) = 22 from by decide), x_gR, r4, if_neg (by decide), x_gR, r4, x_aL (by omega) (by omega), h1, x_sL (by omega) (by omega), cnt]
        exact ⟨_, rfl, fin _⟩
