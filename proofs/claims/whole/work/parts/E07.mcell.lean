/-! RUNNING (reference): cells of rows -/
theorem m_cellT {w : g_St} (F : m_Fix w) {t i j : Nat} (ht : t < 5) (hi : i < 16) (hj : j < 3) : f_M_cellOf (some 1) (Int32.ofNat (16 * t + i)) (Int32.ofNat j) w = some (g_AL w 597 (48 * t + 3 * i + j), w) := by
  have f1 : g_R w 257 1 = some 597 ∧ g_ln w 597 = 240 := F (257, 597, 240) (by decide)
  unfold f_M_cellOf
  rw [if_neg (by rw [show (100 : Int32) = Int32.ofNat 100 from rfl, x_le (by omega) (by omega)]; omega), x_gR, f1.1, show (3 : Int32) = Int32.ofNat 3 from rfl, x_mul, x_add, x_aL (by omega) (by omega), show 3 * (16 * t + i) + j = 48 * t + 3 * i + j by omega]
theorem m_cellP {w : g_St} (F : m_Fix w) {n j : Nat} (hn : n < 50) (hj : j < 4) : f_M_cellOf (some 1) (Int32.ofNat (100 + n)) (Int32.ofNat j) w = some (g_AL w 789 (4 * n + j), w) := by
  have f1 : g_R w 5057 1 = some 789 ∧ g_ln w 789 = 200 := F (5057, 789, 200) (by decide)
  unfold f_M_cellOf
  rw [if_pos (by rw [show (100 : Int32) = Int32.ofNat 100 from rfl, x_le (by omega) (by omega)]; omega), x_gR, f1.1, show (100 : Int32) = Int32.ofNat 100 from rfl, x_sub (by omega), show 100 + n - 100 = n by omega, show (4 : Int32) = Int32.ofNat 4 from rfl, x_mul, x_add, x_aL (by omega) (by omega)]
