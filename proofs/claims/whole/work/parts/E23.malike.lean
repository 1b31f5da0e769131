/-! RUNNING (reference): equal rows -/
section
variable {w : g_St}
theorem m_al219 (F : m_Fix w) {n i lc : Nat} (hn : g_I w 4929 1 = Int32.ofNat n) (n48 : n ≤ 48) (hi : i ≤ 48) (hc : g_AI w 4244 n = Int32.ofNat lc) (h30 : lc ≤ 30) (b : Bool) : f_M_isAlike_219 200000 (some 1) (Int32.ofNat i) (z_g b) 0 w = some (z_g (b && (List.range lc).all fun k => decide (g_AL w 917 (32 * i + k) = g_AL w 917 (32 * n + k))), w) := by
  have f1 : g_R w 5249 1 = some 4244 ∧ g_ln w 4244 = 50 := F (5249, 4244, 50) (by decide)
  have f2 : g_R w 5313 1 = some 917 ∧ g_ln w 917 = 1600 := F (5313, 917, 1600) (by decide)
  have key : ∀ (d k f : Nat) (b : Bool), k + d = lc → d < f → f_M_isAlike_219 f (some 1) (Int32.ofNat i) (z_g b) (Int32.ofNat k) w = some (z_g (b && (List.range' k d).all fun k => decide (g_AL w 917 (32 * i + k) = g_AL w 917 (32 * n + k))), w) := by
    intro d
    induction d with
    | zero =>
      intro k f b e1 e2
      obtain ⟨f, rfl⟩ : ∃ m, f = m + 1 := ⟨f - 1, by omega⟩
      rw [f_M_isAlike_219, x_gR, f1.1, x_gI, hn, x_aI (by omega) (by omega), hc, if_pos (by rw [x_le (by omega) (by omega)]; omega)]
      cases b <;> rfl
    | succ d ih =>
      intro k f b e1 e2
      obtain ⟨f, rfl⟩ : ∃ m, f = m + 1 := ⟨f - 1, by omega⟩
      rw [f_M_isAlike_219, x_gR, f1.1, x_gI, hn, x_aI (by omega) (by omega), hc, if_neg (by rw [x_le (by omega) (by omega)]; omega)]
      cases b with
      | false => rw [if_pos (show z_g false = 0 from rfl), Bool.false_and]; rfl
      | true =>
        rw [if_neg (show ¬ z_g true = 0 from by decide), x_gR, f2.1, show (32 : Int32) = Int32.ofNat 32 from rfl, x_mul, x_add, x_aL (by omega) (by omega), x_gR, f2.1, x_gI, hn, x_mul, x_add, x_aL (by omega) (by omega), x_p1, List.range'_succ, List.all_cons, Bool.true_and]
        by_cases e : g_AL w 917 (32 * i + k) = g_AL w 917 (32 * n + k)
        · rw [if_pos e, decide_eq_true e]
          exact ih (k + 1) f true (by omega) (by omega)
        · rw [if_neg e, decide_eq_false e]
          exact ih (k + 1) f false (by omega) (by omega)
  have k0 := key lc 0 200000 b (by omega) (by omega)
  rw [← List.range_eq_range'] at k0
  exact k0
theorem m_al153 (F : m_Fix w) {n i lc ls : Nat} (hn : g_I w 4929 1 = Int32.ofNat n) (n48 : n ≤ 48) (hi : i ≤ 48) (hc : g_AI w 4244 n = Int32.ofNat lc) (h30 : lc ≤ 30) (hs : g_AI w 4180 n = Int32.ofNat ls) (hs30 : ls ≤ 30) {fr : Nat} (hfr : fr ≤ ls) (b : Bool) : f_M_isAlike_153 200000 (some 1) (Int32.ofNat i) (z_g b) (Int32.ofNat fr) w = some (z_g ((b && (List.range' fr (ls - fr)).all fun k => decide (g_AL w 853 (32 * i + k) = g_AL w 853 (32 * n + k))) && (List.range lc).all fun k => decide (g_AL w 917 (32 * i + k) = g_AL w 917 (32 * n + k))), w) := by
  have f1 : g_R w 5121 1 = some 4180 ∧ g_ln w 4180 = 50 := F (5121, 4180, 50) (by decide)
  have f2 : g_R w 5185 1 = some 853 ∧ g_ln w 853 = 1600 := F (5185, 853, 1600) (by decide)
  have key : ∀ (d k f : Nat) (b : Bool), k + d = ls → d < f → f_M_isAlike_153 f (some 1) (Int32.ofNat i) (z_g b) (Int32.ofNat k) w = some (z_g ((b && (List.range' k d).all fun k => decide (g_AL w 853 (32 * i + k) = g_AL w 853 (32 * n + k))) && (List.range lc).all fun k => decide (g_AL w 917 (32 * i + k) = g_AL w 917 (32 * n + k))), w) := by
    intro d
    induction d with
    | zero =>
      intro k f b e1 e2
      obtain ⟨f, rfl⟩ : ∃ m, f = m + 1 := ⟨f - 1, by omega⟩
      rw [f_M_isAlike_153, x_gR, f1.1, x_gI, hn, x_aI (by omega) (by omega), hs, if_pos (by rw [x_le (by omega) (by omega)]; omega), m_al219 F hn n48 hi hc h30]
      have e0 : ((List.range' k 0).all fun k => decide (g_AL w 853 (32 * i + k) = g_AL w 853 (32 * n + k))) = true := rfl
      rw [e0, Bool.and_true]
    | succ d ih =>
      intro k f b e1 e2
      obtain ⟨f, rfl⟩ : ∃ m, f = m + 1 := ⟨f - 1, by omega⟩
      rw [f_M_isAlike_153, x_gR, f1.1, x_gI, hn, x_aI (by omega) (by omega), hs, if_neg (by rw [x_le (by omega) (by omega)]; omega)]
      cases b with
      | false => rw [if_pos (show z_g false = 0 from rfl), m_al219 F hn n48 hi hc h30, Bool.false_and, Bool.false_and, Bool.false_and]
      | true =>
        rw [if_neg (show ¬ z_g true = 0 from by decide), x_gR, f2.1, show (32 : Int32) = Int32.ofNat 32 from rfl, x_mul, x_add, x_aL (by omega) (by omega), x_gR, f2.1, x_gI, hn, x_mul, x_add, x_aL (by omega) (by omega), x_p1, List.range'_succ, List.all_cons, Bool.true_and]
        by_cases e : g_AL w 853 (32 * i + k) = g_AL w 853 (32 * n + k)
        · rw [if_pos e, decide_eq_true e]
          exact ih (k + 1) f true (by omega) (by omega)
        · rw [if_neg e, decide_eq_false e]
          exact ih (k + 1) f false (by omega) (by omega)
  exact key (ls - fr) fr 200000 b (by omega) (by omega)
theorem m_al69 (F : m_Fix w) {p n i lc ls N : Nat} (hp : p < 4) (hn : g_I w 4929 1 = Int32.ofNat n) (n48 : n ≤ 48) (hi : i ≤ 48) (hN : N ≤ 4) (hc : g_AI w 4244 n = Int32.ofNat lc) (h30 : lc ≤ 30) (hs : g_AI w 4180 n = Int32.ofNat ls) (hs30 : ls ≤ 30) {fr : Nat} (hfr : fr ≤ ls) (h2 : (g_AI w 1428 p = 2 ∧ 1 ≤ ls ∧ fr = ls - 1) ∨ (g_AI w 1428 p ≠ 2 ∧ fr = 0)) (b : Bool) : f_M_isAlike_69 200000 (some 1) (Int32.ofNat p) (Int32.ofNat i) (Int32.ofNat N) (z_g b) 0 w = some (z_g (((b && (List.range N).all fun k => decide (g_AL w 789 (4 * i + k) = g_AL w 789 (4 * n + k))) && (List.range' fr (ls - fr)).all fun k => decide (g_AL w 853 (32 * i + k) = g_AL w 853 (32 * n + k))) && (List.range lc).all fun k => decide (g_AL w 917 (32 * i + k) = g_AL w 917 (32 * n + k))), w) := by
  have f1 : g_R w 5121 1 = some 4180 ∧ g_ln w 4180 = 50 := F (5121, 4180, 50) (by decide)
  have f2 : g_R w 5057 1 = some 789 ∧ g_ln w 789 = 200 := F (5057, 789, 200) (by decide)
  have f3 : g_R w 1409 1 = some 1428 ∧ g_ln w 1428 = 4 := F (1409, 1428, 4) (by decide)
  have e122 : ∀ b, f_M_isAlike_122 (some 1) (Int32.ofNat p) (Int32.ofNat i) (z_g b) w = some (z_g ((b && (List.range' fr (ls - fr)).all fun k => decide (g_AL w 853 (32 * i + k) = g_AL w 853 (32 * n + k))) && (List.range lc).all fun k => decide (g_AL w 917 (32 * i + k) = g_AL w 917 (32 * n + k))), w) := fun b => by
    unfold f_M_isAlike_122
    rw [x_gR, f3.1, x_aI (by omega) (by omega)]
    rcases h2 with ⟨a1, a2, a3⟩ | ⟨a1, a2⟩
    · rw [if_pos a1, x_gR, f1.1, x_gI, hn, x_aI (by omega) (by omega), hs]
      obtain ⟨l, hl⟩ : ∃ l, ls = l + 1 := ⟨ls - 1, by omega⟩
      have e : Int32.ofNat ls - 1 = Int32.ofNat fr := by rw [hl, x_m1, a3, hl]; rfl
      rw [e]
      exact m_al153 F hn n48 hi hc h30 hs hs30 hfr b
    · rw [if_neg a1]
      have := m_al153 F hn n48 hi hc h30 hs hs30 hfr b
      rw [a2] at this ⊢
      exact this
  have key : ∀ (d k f : Nat) (b : Bool), k + d = N → d < f → f_M_isAlike_69 f (some 1) (Int32.ofNat p) (Int32.ofNat i) (Int32.ofNat N) (z_g b) (Int32.ofNat k) w = some (z_g (((b && (List.range' k d).all fun k => decide (g_AL w 789 (4 * i + k) = g_AL w 789 (4 * n + k))) && (List.range' fr (ls - fr)).all fun k => decide (g_AL w 853 (32 * i + k) = g_AL w 853 (32 * n + k))) && (List.range lc).all fun k => decide (g_AL w 917 (32 * i + k) = g_AL w 917 (32 * n + k))), w) := by
    intro d
    induction d with
    | zero =>
      intro k f b e1 e2
      obtain ⟨f, rfl⟩ : ∃ m, f = m + 1 := ⟨f - 1, by omega⟩
      rw [f_M_isAlike_69, if_pos (by rw [x_le (by omega) (by omega)]; omega), e122]
      have e0 : ((List.range' k 0).all fun k => decide (g_AL w 789 (4 * i + k) = g_AL w 789 (4 * n + k))) = true := rfl
      rw [e0, Bool.and_true]
    | succ d ih =>
      intro k f b e1 e2
      obtain ⟨f, rfl⟩ : ∃ m, f = m + 1 := ⟨f - 1, by omega⟩
      rw [f_M_isAlike_69, if_neg (by rw [x_le (by omega) (by omega)]; omega)]
      cases b with
      | false => rw [if_pos (show z_g false = 0 from rfl), e122, Bool.false_and, Bool.false_and, Bool.false_and, Bool.false_and, Bool.false_and]
      | true =>
        rw [if_neg (show ¬ z_g true = 0 from by decide), x_gR, f2.1, show (4 : Int32) = Int32.ofNat 4 from rfl, x_mul, x_add, x_aL (by omega) (by omega), x_gR, f2.1, x_gI, hn, x_mul, x_add, x_aL (by omega) (by omega), x_p1, List.range'_succ, List.all_cons, Bool.true_and]
        by_cases e : g_AL w 789 (4 * i + k) = g_AL w 789 (4 * n + k)
        · rw [if_pos e, decide_eq_true e]
          exact ih (k + 1) f true (by omega) (by omega)
        · rw [if_neg e, decide_eq_false e]
          exact ih (k + 1) f false (by omega) (by omega)
  have k0 := key N 0 200000 b (by omega) (by omega)
  rw [← List.range_eq_range' (n := N)] at k0
  exact k0
end
