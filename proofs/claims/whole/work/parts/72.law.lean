/-! THE LAW: what its calls answer alike, it finds true -/
/-- a call that may throw: the engine by the law's wrapper, then the reference; an int, or a long -/
def z_op (B : Nat) (Inv : Nat → g_St → Prop) (f m : g_St → Option (Int32 × g_St)) : Prop := ∀ n u, n < B → Inv n u → ∃ k b u1 u2, f u = some (k, u1) ∧ m u1 = some (b, u2) ∧ g_I u2 1 1 = k ∧ (k = 0 → 0 < g_ln u2 1237 ∧ g_AL u2 1237 0 = b.toInt64) ∧ Inv (n + 1) u2
def z_opL (B : Nat) (Inv : Nat → g_St → Prop) (f : g_St → Option (Int32 × g_St)) (m : g_St → Option (Int64 × g_St)) : Prop := ∀ n u, n < B → Inv n u → ∃ k b u1 u2, f u = some (k, u1) ∧ m u1 = some (b, u2) ∧ g_I u2 1 1 = k ∧ (k = 0 → 0 < g_ln u2 1237 ∧ g_AL u2 1237 0 = b) ∧ Inv (n + 1) u2
/-- a call that never throws -/
def z_opB (B : Nat) (Inv : Nat → g_St → Prop) (f m : g_St → Option (Int32 × g_St)) : Prop := ∀ n u, n < B → Inv n u → ∃ b u1 u2, f u = some (b, u1) ∧ m u1 = some (b, u2) ∧ Inv (n + 1) u2
theorem z_sca {α : Type} {sc : Nat × (Nat → Int32)} {i : Nat} (h : i < sc.1) (h2 : sc.1 ≤ 3072) (F : Int32 → Option α) : g_sca sc (some 4750) (Int32.ofNat i) F = F (sc.2 i) := by
  unfold g_sca
  have e : (Int32.ofNat i).toNatClampNeg = i := Int32.toNatClampNeg_ofNat_of_lt (by omega)
  show (if 4750 / 64 = 74 ∧ ¬ (Int32.ofNat i < 0 ∨ sc.1 ≤ (Int32.ofNat i).toNatClampNeg) then F (sc.2 (Int32.ofNat i).toNatClampNeg) else none) = _
  rw [e]
  exact if_pos ⟨by decide, fun w => w.elim (fun q => by rw [Int32.lt_iff_toInt_lt, Int32.toInt_ofNat_of_lt (by omega), Int32.toInt_zero] at q; omega) (fun q => absurd h (Nat.not_lt.mpr q))⟩
theorem z_thrown (u : g_St) : f_M_thrown (some 1) u = some (g_I u 1 1, u) := rfl
theorem z_aL0 {α : Type} {u : g_St} {a : Nat} (h : 0 < g_ln u a) (F : Int64 → Option α) : g_aL u (some a) 0 F = F (g_AL u a 0) := x_aL (i := 0) (by decide) h F
theorem z_rZ1 {α : Type} (F : Option α) : g_rZ 1 F = F := if_pos (Or.inr rfl)
theorem z_end {L n : Nat} (h : L ≤ 3072) (hn : n ≤ 512) : (Int32.ofNat L - 6 < Int32.ofNat (6 * n)) = (L < 6 * n + 6) := by
  rw [Int32.lt_iff_toInt_lt, Int32.toInt_sub, Int32.toInt_ofNat_of_lt (by omega), Int32.toInt_ofNat_of_lt (by omega), show (6 : Int32).toInt = 6 from rfl, Int.bmod_eq_of_le (by omega) (by omega)]
  exact propext ⟨fun w => by omega, fun w => by omega⟩
set_option maxHeartbeats 4000000 in
theorem z_law {B : Nat} (hB : B ≤ 512) {Inv : Nat → g_St → Prop} {sc : Nat × (Nat → Int32)} (hL : sc.1 ≤ 6 * B) (hskip : ∀ n u, n < B → Inv n u → Inv (n + 1) u) (h_table : ∀ x1 : Int32, z_op B Inv (f_Lw_table (some 0) x1 (some 1237)) (f_M_table (some 1) x1)) (h_row : ∀ x1 x2 x3 x4 x5 : Int32, z_op B Inv (f_Lw_row (some 0) x1 x2 x3 x4 x5 (some 1237)) (f_M_row (some 1) x1 x2 x3 x4 x5)) (h_clear : ∀ x1 : Int32, z_op B Inv (f_Lw_clear (some 0) x1 (some 1237)) (f_M_clear (some 1) x1)) (h_text : ∀ x1 x2 x3 x4 x5 : Int32, z_opB B Inv (f_E_text (some 0) x1 x2 x3 x4 x5) (f_M_text (some 1) x1 x2 x3 x4 x5)) (h_prepare : z_op B Inv (f_Lw_prepare (some 0) (some 1237)) (f_M_prepare (some 1))) (h_fault : z_opB B Inv (f_E_fault (some 0)) (f_M_fault (some 1))) (h_part : ∀ x1 x2 : Int32, z_op B Inv (f_Lw_part (some 0) x1 x2 (some 1237)) (f_M_part (some 1) x1 x2)) (h_run : ∀ x1 x2 : Int32, z_op B Inv (f_Lw_run (some 0) x1 x2 (some 1237)) (f_M_run (some 1) x1 x2)) (h_cell : ∀ x1 x2 : Int32, z_opL B Inv (f_Lw_cell2 (some 0) x1 x2 (some 1237)) (f_M_cell (some 1) x1 x2)) (h_size : ∀ x1 : Int32, z_op B Inv (f_Lw_size (some 0) x1 (some 1237)) (f_M_size (some 1) x1)) (h_rounds : ∀ x1 x2 : Int32, z_op B Inv (f_Lw_rounds (some 0) x1 x2 (some 1237)) (f_M_rounds (some 1) x1 x2)) :
    ∀ (d n f : Nat) (u : g_St), n + d = B → d < f → Inv n u → ∃ u', f_Lw_law_23 sc f (some 4750) (some 0) (some 1) (some 1237) (Int32.ofNat (6 * n)) u = some (1, u') := by
  intro d
  induction d with
  | zero =>
    intro n f u hn hf hI
    obtain ⟨f, rfl⟩ : ∃ g, f = g + 1 := ⟨f - 1, by omega⟩
    have hsl : ∀ F : Int32 → Option (Int32 × g_St), g_scl sc (some 4750) F = F (Int32.ofNat sc.1) := fun F => (if_pos (by decide) : (if 4750 / 64 = 74 then F (Int32.ofNat sc.1) else none) = _)
    rw [f_Lw_law_23, hsl]
    by_cases he : sc.1 < 6 * n + 6
    · refine ⟨u, ?_⟩
      rw [if_pos (by rw [z_end (by omega) (by omega)]; exact he), z_rZ1]
    · exact absurd hL (by omega)
  | succ d ih =>
    intro n f u hn hf hI
    obtain ⟨f, rfl⟩ : ∃ g, f = g + 1 := ⟨f - 1, by omega⟩
    have hsl : ∀ F : Int32 → Option (Int32 × g_St), g_scl sc (some 4750) F = F (Int32.ofNat sc.1) := fun F => (if_pos (by decide) : (if 4750 / 64 = 74 then F (Int32.ofNat sc.1) else none) = _)
    rw [f_Lw_law_23, hsl]
    by_cases he : sc.1 < 6 * n + 6
    · refine ⟨u, ?_⟩
      rw [if_pos (by rw [z_end (by omega) (by omega)]; exact he), z_rZ1]
    rw [if_neg (by rw [z_end (by omega) (by omega)]; exact he)]
    have hn5 : n < B := by omega
    have hs0 : ∀ F : Int32 → Option (Int32 × g_St), g_sca sc (some 4750) (Int32.ofNat (6 * n)) F = F (sc.2 (6 * n)) := fun F => z_sca (by omega) (by omega) F
    have hs1 : ∀ F : Int32 → Option (Int32 × g_St), g_sca sc (some 4750) (Int32.ofNat (6 * n) + 1) F = F (sc.2 (6 * n + 1)) := fun F => by
      have e : Int32.ofNat (6 * n) + 1 = Int32.ofNat (6 * n + 1) := (Int32.ofNat_add _ _).symm
      rw [e]
      exact z_sca (by omega) (by omega) F
    have hs2 : ∀ F : Int32 → Option (Int32 × g_St), g_sca sc (some 4750) (Int32.ofNat (6 * n) + 2) F = F (sc.2 (6 * n + 2)) := fun F => by
      have e : Int32.ofNat (6 * n) + 2 = Int32.ofNat (6 * n + 2) := (Int32.ofNat_add _ _).symm
      rw [e]
      exact z_sca (by omega) (by omega) F
    have hs3 : ∀ F : Int32 → Option (Int32 × g_St), g_sca sc (some 4750) (Int32.ofNat (6 * n) + 3) F = F (sc.2 (6 * n + 3)) := fun F => by
      have e : Int32.ofNat (6 * n) + 3 = Int32.ofNat (6 * n + 3) := (Int32.ofNat_add _ _).symm
      rw [e]
      exact z_sca (by omega) (by omega) F
    have hs4 : ∀ F : Int32 → Option (Int32 × g_St), g_sca sc (some 4750) (Int32.ofNat (6 * n) + 4) F = F (sc.2 (6 * n + 4)) := fun F => by
      have e : Int32.ofNat (6 * n) + 4 = Int32.ofNat (6 * n + 4) := (Int32.ofNat_add _ _).symm
      rw [e]
      exact z_sca (by omega) (by omega) F
    have hs5 : ∀ F : Int32 → Option (Int32 × g_St), g_sca sc (some 4750) (Int32.ofNat (6 * n) + 5) F = F (sc.2 (6 * n + 5)) := fun F => by
      have e : Int32.ofNat (6 * n) + 5 = Int32.ofNat (6 * n + 5) := (Int32.ofNat_add _ _).symm
      rw [e]
      exact z_sca (by omega) (by omega) F
    have hx : Int32.ofNat (6 * n) + 6 = Int32.ofNat (6 * (n + 1)) := (Int32.ofNat_add _ _).symm
    rw [hs0]
    by_cases c0 : (sc.2 (6 * n) &&& 15) = 0
    · rw [if_pos c0]
      obtain ⟨k, b, u1, u2, e1, e2, e3, e4, e5⟩ := h_table (sc.2 (6 * n + 1)) n u hn5 hI
      obtain ⟨u', hu⟩ := ih (n + 1) f u2 (by omega) (by omega) e5
      refine ⟨u', ?_⟩
      simp only [hs1, x_nn, e1, x_c, e2, z_thrown, e3, if_true, hx]
      by_cases ek : k = 0
      · rw [if_pos ek, z_aL0 (e4 ek).1, (e4 ek).2, if_pos rfl]
        exact hu
      · rw [if_neg ek]
        exact hu
    rw [if_neg c0]
    by_cases c1 : (sc.2 (6 * n) &&& 15) = 1
    · rw [if_pos c1]
      obtain ⟨k, b, u1, u2, e1, e2, e3, e4, e5⟩ := h_row (sc.2 (6 * n + 1)) (sc.2 (6 * n + 2)) (sc.2 (6 * n + 3)) (sc.2 (6 * n + 4)) (sc.2 (6 * n + 5)) n u hn5 hI
      obtain ⟨u', hu⟩ := ih (n + 1) f u2 (by omega) (by omega) e5
      refine ⟨u', ?_⟩
      simp only [hs1, hs2, hs3, hs4, hs5, x_nn, e1, x_c, e2, z_thrown, e3, if_true, hx]
      by_cases ek : k = 0
      · rw [if_pos ek, z_aL0 (e4 ek).1, (e4 ek).2, if_pos rfl]
        exact hu
      · rw [if_neg ek]
        exact hu
    rw [if_neg c1]
    by_cases c2 : (sc.2 (6 * n) &&& 15) = 2
    · rw [if_pos c2]
      obtain ⟨k, b, u1, u2, e1, e2, e3, e4, e5⟩ := h_clear (sc.2 (6 * n + 1)) n u hn5 hI
      obtain ⟨u', hu⟩ := ih (n + 1) f u2 (by omega) (by omega) e5
      refine ⟨u', ?_⟩
      simp only [hs1, x_nn, e1, x_c, e2, z_thrown, e3, if_true, hx]
      by_cases ek : k = 0
      · rw [if_pos ek, z_aL0 (e4 ek).1, (e4 ek).2, if_pos rfl]
        exact hu
      · rw [if_neg ek]
        exact hu
    rw [if_neg c2]
    by_cases c3 : (sc.2 (6 * n) &&& 15) = 3
    · rw [if_pos c3]
      obtain ⟨b, u1, u2, e1, e2, e5⟩ := h_text (sc.2 (6 * n + 1)) (sc.2 (6 * n + 2)) (sc.2 (6 * n + 3)) (sc.2 (6 * n + 4)) (sc.2 (6 * n + 5)) n u hn5 hI
      obtain ⟨u', hu⟩ := ih (n + 1) f u2 (by omega) (by omega) e5
      refine ⟨u', ?_⟩
      simp only [hs1, hs2, hs3, hs4, hs5, x_nn, e1, x_c, e2, if_true, hx]
      exact hu
    rw [if_neg c3]
    by_cases c4 : (sc.2 (6 * n) &&& 15) = 4
    · rw [if_pos c4]
      obtain ⟨k, b, u1, u2, e1, e2, e3, e4, e5⟩ := h_prepare  n u hn5 hI
      obtain ⟨u', hu⟩ := ih (n + 1) f u2 (by omega) (by omega) e5
      refine ⟨u', ?_⟩
      simp only [x_nn, e1, x_c, e2, z_thrown, e3, if_true, hx]
      by_cases ek : k = 0
      · rw [if_pos ek, z_aL0 (e4 ek).1, (e4 ek).2, if_pos rfl]
        exact hu
      · rw [if_neg ek]
        exact hu
    rw [if_neg c4]
    by_cases c5 : (sc.2 (6 * n) &&& 15) = 5
    · rw [if_pos c5]
      obtain ⟨b, u1, u2, e1, e2, e5⟩ := h_fault  n u hn5 hI
      obtain ⟨u', hu⟩ := ih (n + 1) f u2 (by omega) (by omega) e5
      refine ⟨u', ?_⟩
      simp only [x_nn, e1, x_c, e2, if_true, hx]
      exact hu
    rw [if_neg c5]
    by_cases c6 : (sc.2 (6 * n) &&& 15) = 6
    · rw [if_pos c6]
      obtain ⟨k, b, u1, u2, e1, e2, e3, e4, e5⟩ := h_part (sc.2 (6 * n + 1)) (sc.2 (6 * n + 2)) n u hn5 hI
      obtain ⟨u', hu⟩ := ih (n + 1) f u2 (by omega) (by omega) e5
      refine ⟨u', ?_⟩
      simp only [hs1, hs2, x_nn, e1, x_c, e2, z_thrown, e3, if_true, hx]
      by_cases ek : k = 0
      · rw [if_pos ek, z_aL0 (e4 ek).1, (e4 ek).2, if_pos rfl]
        exact hu
      · rw [if_neg ek]
        exact hu
    rw [if_neg c6]
    by_cases c7 : (sc.2 (6 * n) &&& 15) = 7
    · rw [if_pos c7]
      obtain ⟨k, b, u1, u2, e1, e2, e3, e4, e5⟩ := h_run (sc.2 (6 * n + 1)) (sc.2 (6 * n + 2)) n u hn5 hI
      obtain ⟨u', hu⟩ := ih (n + 1) f u2 (by omega) (by omega) e5
      refine ⟨u', ?_⟩
      simp only [hs1, hs2, x_nn, e1, x_c, e2, z_thrown, e3, if_true, hx]
      by_cases ek : k = 0
      · rw [if_pos ek, z_aL0 (e4 ek).1, (e4 ek).2, if_pos rfl]
        exact hu
      · rw [if_neg ek]
        exact hu
    rw [if_neg c7]
    by_cases c8 : (sc.2 (6 * n) &&& 15) = 8
    · rw [if_pos c8]
      obtain ⟨k, b, u1, u2, e1, e2, e3, e4, e5⟩ := h_cell (sc.2 (6 * n + 1)) (sc.2 (6 * n + 2)) n u hn5 hI
      obtain ⟨u', hu⟩ := ih (n + 1) f u2 (by omega) (by omega) e5
      refine ⟨u', ?_⟩
      simp only [hs1, hs2, x_nn, e1, x_c, e2, z_thrown, e3, if_true, hx]
      by_cases ek : k = 0
      · rw [if_pos ek, z_aL0 (e4 ek).1, (e4 ek).2, if_pos rfl]
        exact hu
      · rw [if_neg ek]
        exact hu
    rw [if_neg c8]
    by_cases c9 : (sc.2 (6 * n) &&& 15) = 9
    · rw [if_pos c9]
      obtain ⟨k, b, u1, u2, e1, e2, e3, e4, e5⟩ := h_size (sc.2 (6 * n + 1)) n u hn5 hI
      obtain ⟨u', hu⟩ := ih (n + 1) f u2 (by omega) (by omega) e5
      refine ⟨u', ?_⟩
      simp only [hs1, x_nn, e1, x_c, e2, z_thrown, e3, if_true, hx]
      by_cases ek : k = 0
      · rw [if_pos ek, z_aL0 (e4 ek).1, (e4 ek).2, if_pos rfl]
        exact hu
      · rw [if_neg ek]
        exact hu
    rw [if_neg c9]
    by_cases c10 : (sc.2 (6 * n) &&& 15) = 10
    · rw [if_pos c10]
      obtain ⟨k, b, u1, u2, e1, e2, e3, e4, e5⟩ := h_rounds (sc.2 (6 * n + 1)) (sc.2 (6 * n + 2)) n u hn5 hI
      obtain ⟨u', hu⟩ := ih (n + 1) f u2 (by omega) (by omega) e5
      refine ⟨u', ?_⟩
      simp only [hs1, hs2, x_nn, e1, x_c, e2, z_thrown, e3, if_true, hx]
      by_cases ek : k = 0
      · rw [if_pos ek, z_aL0 (e4 ek).1, (e4 ek).2, if_pos rfl]
        exact hu
      · rw [if_neg ek]
        exact hu
    rw [if_neg c10]
    obtain ⟨u', hu⟩ := ih (n + 1) f u (by omega) (by omega) (hskip n u hn5 hI)
    exact ⟨u', by rw [hx]; exact hu⟩
theorem z_whole {B : Nat} (hB : B ≤ 512) {Inv : Nat → g_St → Prop} (h0 : ∀ u, z_First u → Inv 0 u) (hskip : ∀ n u, n < B → Inv n u → Inv (n + 1) u) (h_table : ∀ x1 : Int32, z_op B Inv (f_Lw_table (some 0) x1 (some 1237)) (f_M_table (some 1) x1)) (h_row : ∀ x1 x2 x3 x4 x5 : Int32, z_op B Inv (f_Lw_row (some 0) x1 x2 x3 x4 x5 (some 1237)) (f_M_row (some 1) x1 x2 x3 x4 x5)) (h_clear : ∀ x1 : Int32, z_op B Inv (f_Lw_clear (some 0) x1 (some 1237)) (f_M_clear (some 1) x1)) (h_text : ∀ x1 x2 x3 x4 x5 : Int32, z_opB B Inv (f_E_text (some 0) x1 x2 x3 x4 x5) (f_M_text (some 1) x1 x2 x3 x4 x5)) (h_prepare : z_op B Inv (f_Lw_prepare (some 0) (some 1237)) (f_M_prepare (some 1))) (h_fault : z_opB B Inv (f_E_fault (some 0)) (f_M_fault (some 1))) (h_part : ∀ x1 x2 : Int32, z_op B Inv (f_Lw_part (some 0) x1 x2 (some 1237)) (f_M_part (some 1) x1 x2)) (h_run : ∀ x1 x2 : Int32, z_op B Inv (f_Lw_run (some 0) x1 x2 (some 1237)) (f_M_run (some 1) x1 x2)) (h_cell : ∀ x1 x2 : Int32, z_opL B Inv (f_Lw_cell2 (some 0) x1 x2 (some 1237)) (f_M_cell (some 1) x1 x2)) (h_size : ∀ x1 : Int32, z_op B Inv (f_Lw_size (some 0) x1 (some 1237)) (f_M_size (some 1) x1)) (h_rounds : ∀ x1 x2 : Int32, z_op B Inv (f_Lw_rounds (some 0) x1 x2 (some 1237)) (f_M_rounds (some 1) x1 x2)) : ∀ sc : Nat × (Nat → Int32), sc.1 ≤ 6 * B → ∃ u', f_Lw_law sc (some 4750) g_u0 = some (1, u') := by
  intro sc hL
  obtain ⟨u, hu, hF⟩ := z_begin
  rw [hu]
  exact z_law hB hL hskip h_table h_row h_clear h_text h_prepare h_fault h_part h_run h_cell h_size h_rounds B 0 200000 u (by omega) (by omega) (h0 u hF)
