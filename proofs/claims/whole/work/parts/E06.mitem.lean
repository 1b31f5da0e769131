/-! RUNNING (reference): items -/
theorem m_int (v : Int64) (w : g_St) : f_M_isInt v w = some (z_g (!(decide (v < -2147483648) || !decide (v ≤ 2147483647))), w) := by
  unfold f_M_isInt
  by_cases a : v < -2147483648
  · rw [if_pos a, decide_eq_true a]; rfl
  · rw [if_neg a, decide_eq_false a]
    by_cases b : (2147483647 : Int64) < v
    · have c : ¬ v ≤ 2147483647 := by
        rw [Int64.lt_iff_toInt_lt] at b
        rw [Int64.le_iff_toInt_le]
        omega
      rw [if_pos b, decide_eq_false c]; rfl
    · have c : v ≤ 2147483647 := by
        rw [Int64.lt_iff_toInt_lt] at b
        rw [Int64.le_iff_toInt_le]
        omega
      rw [if_neg b, decide_eq_true c]; rfl
theorem m_fits (v : Int64) (w : g_St) : f_M_fits v w = some (z_g (!r_oor v), w) := by
  unfold f_M_fits r_oor
  by_cases a : v = r_N
  · rw [if_pos a, decide_eq_true a]; rfl
  · rw [if_neg a, m_int, x_c, decide_eq_false a]
    cases (decide (v < -2147483648) || !decide (v ≤ 2147483647)) <;> rfl
/-- the items of selection s -/
def M_vit (w : g_St) (mc : Nat → Nat → Nat) (s : Nat) (its : List r_It) : Prop := s < 17 ∧ its.length ≤ 4 ∧ ∃ i0, g_AI w 2132 s = Int32.ofNat i0 ∧ i0 + its.length ≤ 68 ∧ ∀ j, j < its.length → ((its.getD j r_it0).1 = 0 ∧ g_AI w 2516 (i0 + j) = 0 ∨ (20 ≤ (its.getD j r_it0).1 ∧ (its.getD j r_it0).1 ≤ 23) ∧ g_AI w 2516 (i0 + j) = z_km (its.getD j r_it0).1) ∧ ((its.getD j r_it0).1 ≠ 20 → ∃ e, g_AI w 2580 (i0 + j) = Int32.ofNat e ∧ M_vex w mc e (its.getD j r_it0).2)
theorem m_itv {w : g_St} (F : m_Fix w) {mc : Nat → Nat → Nat} {s : Nat} {its : List r_It} (h : M_vit w mc s its) {j : Nat} (hj : j < its.length) (hk : (its.getD j r_it0).1 ≠ 20) {env : Nat → Nat → Int64} {D : Nat → Nat → Prop} (hu : r_uit D its) (hd : ∀ k j, D k j → M_vbd w mc env k j) : f_M_itemOf (some 1) (Int32.ofNat s) (Int32.ofNat j) w = some (r_iv its env j, w) := by
  have f1 : g_R w 2945 1 = some 2580 ∧ g_ln w 2580 = 68 := F (2945, 2580, 68) (by decide)
  have f2 : g_R w 2369 1 = some 2132 ∧ g_ln w 2132 = 17 := F (2369, 2132, 17) (by decide)
  obtain ⟨s17, l4, i0, h1, h2, h3⟩ := h
  obtain ⟨-, h4⟩ := h3 j hj
  obtain ⟨e, e1, e2, e3, e4, b, e5, e6, e7⟩ := h4 hk
  have v := m_val F e2 e3 e4 e5 e6 e7 (hu j hj hk) hd
  unfold f_M_itemOf
  rw [x_gR, f1.1, x_gR, f2.1, x_aI (by omega) (by omega), h1, x_add, x_aI (by omega) (by omega), e1, x_nn, v, x_c]
  rfl
