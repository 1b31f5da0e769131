/-! RUNNING (reference): comparisons -/
def M_vex (w : g_St) (mc : Nat → Nat → Nat) (e : Nat) (L : List r_Op) : Prop := e < 210 ∧ L.length ≤ 205 ∧ g_AI w 2708 e = Int32.ofNat L.length ∧ ∃ b, g_AI w 2644 e = Int32.ofNat b ∧ b < 210 ∧ ∀ j, j < L.length → M_vop w mc (b + j) (L.getD j r_op0)
def M_vcp (w : g_St) (mc : Nat → Nat → Nat) (c : Nat) (x : r_Cp) : Prop := c < 120 ∧ (∃ e, g_AI w 3412 c = Int32.ofNat e ∧ M_vex w mc e x.1) ∧ ((x.2.1 = 9 ∧ g_AI w 3284 c = 1) ∨ (x.2.1 ≠ 9 ∧ g_AI w 3284 c = 0 ∧ (∃ e, g_AI w 3476 c = Int32.ofNat e ∧ M_vex w mc e x.2.2) ∧ ((x.2.1 = 31 ∧ g_AI w 3348 c = 161) ∨ (x.2.1 = 35 ∧ g_AI w 3348 c = 32) ∨ (x.2.1 = 32 ∧ g_AI w 3348 c = 160) ∨ (x.2.1 = 33 ∧ g_AI w 3348 c ≠ 161 ∧ g_AI w 3348 c ≠ 32 ∧ g_AI w 3348 c ≠ 160))))
theorem m_cp {w : g_St} (F : m_Fix w) {mc : Nat → Nat → Nat} {c : Nat} {x : r_Cp} (h : M_vcp w mc c x) {env : Nat → Nat → Int64} {D : Nat → Nat → Prop} (hu : r_ucp D x) (hd : ∀ k j, D k j → M_vbd w mc env k j) : f_M_compares (some 1) (Int32.ofNat c) w = some (z_g (r_cp env x), w) := by
  have f1 : g_R w 4033 1 = some 3412 ∧ g_ln w 3412 = 120 := F (4033, 3412, 120) (by decide)
  have f2 : g_R w 3905 1 = some 3284 ∧ g_ln w 3284 = 120 := F (3905, 3284, 120) (by decide)
  have f3 : g_R w 4097 1 = some 3476 ∧ g_ln w 3476 = 120 := F (4097, 3476, 120) (by decide)
  have f4 : g_R w 3969 1 = some 3348 ∧ g_ln w 3348 = 120 := F (3969, 3348, 120) (by decide)
  obtain ⟨c1, ⟨e, e1, e2, e3, e4, b, e5, e6, e7⟩, hk⟩ := h
  have v1 := m_val F e2 e3 e4 e5 e6 e7 hu.1 hd
  have z1 : g_rZ 1 (some ((1 : Int32), w)) = some (z_g true, w) := rfl
  have z0 : g_rZ 0 (some ((0 : Int32), w)) = some (z_g false, w) := rfl
  unfold f_M_compares r_cp
  rw [x_gR, f1.1, x_aI (by omega) (by omega), e1, x_nn, v1, x_c, x_gR, f2.1, x_aI (by omega) (by omega)]
  rcases hk with ⟨k1, k2⟩ | ⟨k1, k2, ⟨e', d1, d2, d3, d4, b', d5, d6, d7⟩, hop⟩
  · rw [k2, if_pos rfl, if_pos k1]
    by_cases q : r_val env x.1 = r_N
    · rw [if_pos q, decide_eq_true q]; exact z1
    · rw [if_neg q, decide_eq_false q]; exact z0
  · have v2 := m_val F d2 d3 d4 d5 d6 d7 (hu.2 k1) hd
    rw [k2, if_neg (by decide), if_neg k1, x_gR, f3.1, x_aI (by omega) (by omega), d1, x_nn, v2, x_c]
    unfold r_cmp
    by_cases q : r_val env x.1 = r_N
    · rw [if_pos q, if_pos q]; exact z0
    · rw [if_neg q, if_neg q]
      by_cases p : r_val env x.2.2 = r_N
      · rw [if_pos p, if_pos p]; exact z0
      · rw [if_neg p, if_neg p, x_gR, f4.1, x_aI (by omega) (by omega), x_gR, f4.1, x_aI (by omega) (by omega), x_gR, f4.1, x_aI (by omega) (by omega)]
        rcases hop with ⟨o1, o2⟩ | ⟨o1, o2⟩ | ⟨o1, o2⟩ | ⟨o1, o2, o3, o4⟩
        · rw [o1, o2, if_pos (show (161 : Int32) = 161 from rfl), if_pos (show (31 : Nat) = 31 from rfl)]
          by_cases a : r_val env x.1 = r_val env x.2.2
          · rw [if_pos a, decide_eq_true a]; exact z1
          · rw [if_neg a, decide_eq_false a]; exact z0
        · rw [o1, o2, if_neg (show ¬ (32 : Int32) = 161 from by decide), if_pos (show (32 : Int32) = 32 from rfl), if_neg (show ¬ (35 : Nat) = 31 from by decide), if_pos (show (35 : Nat) = 35 from rfl)]
          by_cases a : r_val env x.1 = r_val env x.2.2
          · rw [if_pos a, decide_eq_true a]; exact z0
          · rw [if_neg a, decide_eq_false a]; exact z1
        · rw [o1, o2, if_neg (show ¬ (160 : Int32) = 161 from by decide), if_neg (show ¬ (160 : Int32) = 32 from by decide), if_pos (show (160 : Int32) = 160 from rfl), if_neg (show ¬ (32 : Nat) = 31 from by decide), if_neg (show ¬ (32 : Nat) = 35 from by decide), if_pos (show (32 : Nat) = 32 from rfl)]
          by_cases a : r_val env x.2.2 ≤ r_val env x.1
          · rw [if_pos a, decide_eq_true a]; exact z0
          · rw [if_neg a, decide_eq_false a]; exact z1
        · rw [o1, if_neg o2, if_neg o3, if_neg o4, if_neg (show ¬ (33 : Nat) = 31 from by decide), if_neg (show ¬ (33 : Nat) = 35 from by decide), if_neg (show ¬ (33 : Nat) = 32 from by decide), if_pos (show (33 : Nat) = 33 from rfl)]
          by_cases a : r_val env x.1 ≤ r_val env x.2.2
          · rw [if_pos a, decide_eq_true a]; exact z0
          · rw [if_neg a, decide_eq_false a]; exact z1
