/-! RUNNING (reference): trails get longer -/
theorem m_fx {w : g_St} (F : m_Fix w) {a b c : Nat} (h : (a, b, c) ∈ m_tab) : g_R w a 1 = some b ∧ g_ln w b = c := F (a, b, c) h
/-- the parent of the row that may come -/
def M_pp (w : g_St) (X : r_Pt) (n : Nat) (x3 : Int32) (par : r_Row) : Prop := (x3 = -1 ∧ par = []) ∨ ∃ n0, n0 < n ∧ x3 = Int32.ofNat n0 ∧ M_row w X n0 par ∧ par.length ≤ 29
section
variable {w : g_St} {p n : Nat} {X : r_Pt} {x3 : Int32} {par : r_Row}
theorem m_len56 (F : m_Fix w) (hpc : M_pcv w p X) (hn : g_I w 4929 1 = Int32.ofNat n) (n48 : n ≤ 48) {b : Bool} {c : Nat} (hX : X.2.1 = some (b, c)) (own : Nat → Int64) (ho : g_AL w 789 (4 * n + c) = own c) {n0 : Nat} (hn0 : par.length ≠ 0 → n0 < n ∧ x3 = Int32.ofNat n0) (h29 : par.length ≤ 29) (hT : ∀ k, k < par.length → g_AL w 853 (32 * n0 + k) = par.getD (par.length - 1 - k) r_c0 c) : ∃ w', f_M_lengthen_56 200000 (some 1) (Int32.ofNat p) x3 (Int32.ofNat par.length) 0 w = f_M_lengthen_142 (some 1) (Int32.ofNat p) x3 w' ∧ z_W [] [853, 4180] w w' ∧ M_blw n w w' ∧ g_AI w' 4180 n = Int32.ofNat (own :: par).length ∧ ∀ k, k < (own :: par).length → g_AL w' 853 (32 * n + k) = (own :: par).getD ((own :: par).length - 1 - k) r_c0 c := by
  obtain ⟨p1, p2, p3, -, p5, -, -⟩ := hpc
  obtain ⟨-, q2, q3⟩ := p5 b c hX
  have key : ∀ (d i f : Nat) (w1 : g_St), i + d = par.length → d < f → z_W [] [853, 4180] w w1 → M_blw n w w1 → (∀ k, k < i → g_AL w1 853 (32 * n + k) = par.getD (par.length - 1 - k) r_c0 c) → ∃ w', f_M_lengthen_56 f (some 1) (Int32.ofNat p) x3 (Int32.ofNat par.length) (Int32.ofNat i) w1 = f_M_lengthen_142 (some 1) (Int32.ofNat p) x3 w' ∧ z_W [] [853, 4180] w w' ∧ M_blw n w w' ∧ g_AI w' 4180 n = Int32.ofNat (own :: par).length ∧ ∀ k, k < (own :: par).length → g_AL w' 853 (32 * n + k) = (own :: par).getD ((own :: par).length - 1 - k) r_c0 c := by
    intro d
    induction d with
    | zero =>
      intro i f w1 e1 e2 hw hl hk
      obtain ⟨f, rfl⟩ : ∃ m, f = m + 1 := ⟨f - 1, by omega⟩
      have F1 := hw.fx F
      have f1 : g_R w1 5185 1 = some 853 ∧ g_ln w1 853 = 1600 := F1 (5185, 853, 1600) (by decide)
      have f2 : g_R w1 5057 1 = some 789 ∧ g_ln w1 789 = 200 := F1 (5057, 789, 200) (by decide)
      have f3 : g_R w1 1729 1 = some 1748 ∧ g_ln w1 1748 = 4 := F1 (1729, 1748, 4) (by decide)
      have f4 : g_R w1 5121 1 = some 4180 ∧ g_ln w1 4180 = 50 := F1 (5121, 4180, 50) (by decide)
      have hn1 : g_I w1 4929 1 = Int32.ofNat n := by rw [hw.fi (by decide)]; exact hn
      have er : g_AL w1 789 (4 * n + c) = own c := by rw [hw.al (a := 789) (by decide)]; exact ho
      rw [f_M_lengthen_56, if_pos (by rw [x_le (by omega) (by omega)]; omega), x_gR, f1.1, x_gI, hn1, x_gR, f2.1, x_gI, hn1, x_gR, f3.1, x_aI (by omega) (by omega), hw.ai (a := 1748) (by decide), q2, show (4 : Int32) = Int32.ofNat 4 from rfl, x_mul, x_add, x_aL (by omega) (by omega), er, show (32 : Int32) = Int32.ofNat 32 from rfl, x_mul, x_add, x_sL (by omega) (by omega), x_gR, show g_R (g_setAL w1 853 (32 * n + par.length) (own c)) 5121 1 = some 4180 from f4.1, x_gI, show g_I (g_setAL w1 853 (32 * n + par.length) (own c)) 4929 1 = Int32.ofNat n from hn1, x_p1, x_sI (by omega) (by show n < g_ln w1 4180; omega)]
      refine ⟨_, rfl, (hw.sL (by decide) _ _).sI (by decide) _ _, (hl.sL ⟨fun q => absurd q (by decide), fun _ => by omega⟩).sI (Nat.le_refl _), ?_, fun k hk' => ?_⟩
      · rw [x_AI_AI, if_pos ⟨rfl, rfl⟩]; rfl
      · have hk2 : k < par.length + 1 := hk'
        rw [x_AL_AI, x_AL_AL]
        show _ = (own :: par).getD (par.length + 1 - 1 - k) r_c0 c
        by_cases e : k = par.length
        · rw [if_pos ⟨rfl, by omega⟩, e, show par.length + 1 - 1 - par.length = 0 by omega]
          rfl
        · rw [if_neg (by omega), hk k (by omega), show par.length + 1 - 1 - k = (par.length - 1 - k) + 1 by omega, List.getD_cons_succ]
    | succ d ih =>
      intro i f w1 e1 e2 hw hl hk
      obtain ⟨f, rfl⟩ : ∃ m, f = m + 1 := ⟨f - 1, by omega⟩
      have F1 := hw.fx F
      have f1 : g_R w1 5185 1 = some 853 ∧ g_ln w1 853 = 1600 := F1 (5185, 853, 1600) (by decide)
      have hn1 : g_I w1 4929 1 = Int32.ofNat n := by rw [hw.fi (by decide)]; exact hn
      obtain ⟨n1, n2⟩ := hn0 (by omega)
      have er : g_AL w1 853 (32 * n0 + i) = par.getD (par.length - 1 - i) r_c0 c := by rw [(hl.2.1 _ (by omega)).1]; exact hT i (by omega)
      rw [f_M_lengthen_56, if_neg (by rw [x_le (by omega) (by omega)]; omega), x_gR, f1.1, x_gI, hn1, x_gR, f1.1, n2, show (32 : Int32) = Int32.ofNat 32 from rfl, x_mul, x_add, x_aL (by omega) (by omega), er, x_mul, x_add, x_sL (by omega) (by omega), x_p1, ← n2]
      refine ih (i + 1) f _ (by omega) (by omega) (hw.sL (by decide) _ _) (hl.sL ⟨fun q => absurd q (by decide), fun _ => by omega⟩) (fun k hk' => ?_)
      rw [x_AL_AL]
      by_cases e : k = i
      · rw [if_pos ⟨rfl, by omega⟩, e]
      · rw [if_neg (by omega)]; exact hk k (by omega)
  exact key par.length 0 200000 w (by omega) (by omega) z_W.re M_blw.re (fun k hk => by omega)
theorem r_any_rev (par : r_Row) (c : Nat) (v : Int64) : ((List.range par.length).any fun k => decide (par.getD (par.length - 1 - k) r_c0 c = v)) = par.any fun a => decide (a c = v) := by
  rw [Bool.eq_iff_iff, List.any_eq_true, List.any_eq_true]
  constructor
  · rintro ⟨k, hk, h⟩
    have hk' := List.mem_range.mp hk
    exact ⟨_, z_getD_m (d := r_c0) (show par.length - 1 - k < par.length by omega), h⟩
  · rintro ⟨a, ha, h⟩
    obtain ⟨i, hi, e⟩ := List.getElem_of_mem ha
    refine ⟨par.length - 1 - i, List.mem_range.mpr (by omega), ?_⟩
    rw [show par.length - 1 - (par.length - 1 - i) = i by omega, List.getD_eq_getElem?_getD, List.getElem?_eq_getElem hi]
    show decide (par[i] c = v) = true
    rw [e]; exact h
theorem m_len196 (F : m_Fix w) (hpc : M_pcv w p X) (hn : g_I w 4929 1 = Int32.ofNat n) (n48 : n ≤ 48) {c : Nat} (hX : X.2.2.1 = some c) (v : Nat → Int64) {n0 : Nat} (hn0 : par.length ≠ 0 → n0 < n ∧ x3 = Int32.ofNat n0) (h29 : par.length ≤ 29) (hT : ∀ k, k < par.length → g_AL w 917 (32 * n0 + k) = par.getD (par.length - 1 - k) r_c0 c) : ∃ w', f_M_lengthen_196 200000 (some 1) (Int32.ofNat p) x3 (Int32.ofNat par.length) (v c) 0 0 w = some ((), w') ∧ z_W [] [789, 917, 4244] w w' ∧ M_blw n w w' ∧ g_AI w' 4244 n = Int32.ofNat (v :: par).length ∧ (∀ k, k < (v :: par).length → g_AL w' 917 (32 * n + k) = (v :: par).getD ((v :: par).length - 1 - k) r_c0 c) ∧ g_AL w' 789 (4 * n + X.1) = r_mk X v par ∧ ∀ j, j ≠ 4 * n + X.1 → g_AL w' 789 j = g_AL w 789 j := by
  obtain ⟨p1, p2, p3, -, -, -, p7⟩ := hpc
  have key : ∀ (d i f : Nat) (b : Bool) (w1 : g_St), i + d = par.length → d < f → z_W [] [789, 917, 4244] w w1 → M_blw n w w1 → (∀ k, k < i → g_AL w1 917 (32 * n + k) = par.getD (par.length - 1 - k) r_c0 c) → g_AL w1 789 = g_AL w 789 → ∃ w', f_M_lengthen_196 f (some 1) (Int32.ofNat p) x3 (Int32.ofNat par.length) (v c) (if b = true then 1 else 0) (Int32.ofNat i) w1 = some ((), w') ∧ z_W [] [789, 917, 4244] w w' ∧ M_blw n w w' ∧ g_AI w' 4244 n = Int32.ofNat (v :: par).length ∧ (∀ k, k < (v :: par).length → g_AL w' 917 (32 * n + k) = (v :: par).getD ((v :: par).length - 1 - k) r_c0 c) ∧ g_AL w' 789 (4 * n + X.1) = (if (b || (!decide (v c = r_N) && (List.range' i d).any fun k => decide (par.getD (par.length - 1 - k) r_c0 c = v c))) = true then 1 else 0) ∧ ∀ j, j ≠ 4 * n + X.1 → g_AL w' 789 j = g_AL w 789 j := by
    intro d
    induction d with
    | zero =>
      intro i f b w1 e1 e2 hw hl hk h789
      obtain ⟨f, rfl⟩ : ∃ m, f = m + 1 := ⟨f - 1, by omega⟩
      have F1 := hw.fx F
      have f1 : g_R w1 5313 1 = some 917 ∧ g_ln w1 917 = 1600 := F1 (5313, 917, 1600) (by decide)
      have f2 : g_R w1 5057 1 = some 789 ∧ g_ln w1 789 = 200 := F1 (5057, 789, 200) (by decide)
      have f3 : g_R w1 1281 1 = some 1300 ∧ g_ln w1 1300 = 4 := F1 (1281, 1300, 4) (by decide)
      have f4 : g_R w1 5249 1 = some 4244 ∧ g_ln w1 4244 = 50 := F1 (5249, 4244, 50) (by decide)
      have hn1 : g_I w1 4929 1 = Int32.ofNat n := by rw [hw.fi (by decide)]; exact hn
      have p3' : g_AI w1 1300 p = Int32.ofNat X.1 := by rw [hw.ai (a := 1300) (by decide)]; exact p3
      obtain ⟨s3, hs3⟩ : ∃ s3, s3 = g_setAL w1 917 (32 * n + par.length) (v c) := ⟨_, rfl⟩
      obtain ⟨s6, hs6⟩ : ∃ s6, s6 = g_setAI s3 4244 n (Int32.ofNat (par.length + 1)) := ⟨_, rfl⟩
      have W3 : z_W [] [789, 917, 4244] w s3 := by rw [hs3]; exact hw.sL (by decide) _ _
      have W6 : z_W [] [789, 917, 4244] w s6 := by rw [hs6]; exact W3.sI (by decide) _ _
      rw [f_M_lengthen_196, if_pos (by rw [x_le (by omega) (by omega)]; omega), x_gR, f1.1, x_gI, hn1, show (32 : Int32) = Int32.ofNat 32 from rfl, x_mul, x_add, x_sL (by omega) (by omega), ← hs3, x_gR, (m_fx (a := 5249) (b := 4244) (c := 50) (W3.fx F) (by decide)).1, x_gI, show g_I s3 4929 1 = Int32.ofNat n by rw [W3.fi (by decide)]; exact hn, x_p1, x_sI (by omega) (by have := (m_fx (a := 5249) (b := 4244) (c := 50) (W3.fx F) (by decide)).2; omega), ← hs6, x_gR, (m_fx (a := 5057) (b := 789) (c := 200) (W6.fx F) (by decide)).1, x_gI, show g_I s6 4929 1 = Int32.ofNat n by rw [W6.fi (by decide)]; exact hn, x_gR, (m_fx (a := 1281) (b := 1300) (c := 4) (W6.fx F) (by decide)).1, x_aI (by omega) (by have := (m_fx (a := 1281) (b := 1300) (c := 4) (W6.fx F) (by decide)).2; omega), show g_AI s6 1300 p = Int32.ofNat X.1 by rw [W6.ai (a := 1300) (by decide)]; exact p3, show (4 : Int32) = Int32.ofNat 4 from rfl, x_mul, x_add, x_sL (by omega) (by have := (m_fx (a := 5057) (b := 789) (c := 200) (W6.fx F) (by decide)).2; omega)]
      refine ⟨_, rfl, W6.sL (by decide) _ _, ?_, ?_, fun k hk' => ?_, ?_, fun j hj => ?_⟩
      · rw [hs6, hs3]
        exact ((hl.sL ⟨fun q => absurd q (by decide), fun _ => by omega⟩).sI (Nat.le_refl _)).sL ⟨fun _ => by omega, fun q => absurd q (by decide)⟩
      · rw [x_AI_AL, hs6, x_AI_AI, if_pos ⟨rfl, rfl⟩]; rfl
      · have hk2 : k < par.length + 1 := hk'
        rw [x_AL_AL, if_neg (fun q => absurd q.1 (by decide)), hs6, x_AL_AI, hs3, x_AL_AL]
        show _ = (v :: par).getD (par.length + 1 - 1 - k) r_c0 c
        by_cases e : k = par.length
        · rw [if_pos ⟨rfl, by omega⟩, e, show par.length + 1 - 1 - par.length = 0 by omega]
          rfl
        · rw [if_neg (by omega), hk k (by omega), show par.length + 1 - 1 - k = (par.length - 1 - k) + 1 by omega, List.getD_cons_succ]
      · rw [x_AL_AL, if_pos ⟨rfl, rfl⟩]
        show _ = if (b || (!decide (v c = r_N) && false)) = true then 1 else 0
        rw [Bool.and_false, Bool.or_false]
      · rw [x_AL_AL, if_neg (fun q => hj q.2), hs6, x_AL_AI, hs3, x_AL_AL, if_neg (fun q => absurd q.1 (by decide)), h789]
    | succ d ih =>
      intro i f b w1 e1 e2 hw hl hk h789
      obtain ⟨f, rfl⟩ : ∃ m, f = m + 1 := ⟨f - 1, by omega⟩
      have F1 := hw.fx F
      have f1 : g_R w1 5313 1 = some 917 ∧ g_ln w1 917 = 1600 := F1 (5313, 917, 1600) (by decide)
      have hn1 : g_I w1 4929 1 = Int32.ofNat n := by rw [hw.fi (by decide)]; exact hn
      obtain ⟨n1, n2⟩ := hn0 (by omega)
      have er : g_AL w1 917 (32 * n0 + i) = par.getD (par.length - 1 - i) r_c0 c := by rw [(hl.2.1 _ (by omega)).2]; exact hT i (by omega)
      obtain ⟨s3, hs3⟩ : ∃ s3, s3 = g_setAL w1 917 (32 * n + i) (par.getD (par.length - 1 - i) r_c0 c) := ⟨_, rfl⟩
      have W3 : z_W [] [789, 917, 4244] w s3 := by rw [hs3]; exact hw.sL (by decide) _ _
      have L3 : M_blw n w s3 := by rw [hs3]; exact hl.sL ⟨fun q => absurd q (by decide), fun _ => by omega⟩
      have K3 : ∀ k, k < i + 1 → g_AL s3 917 (32 * n + k) = par.getD (par.length - 1 - k) r_c0 c := fun k hk' => by
        rw [hs3, x_AL_AL]
        by_cases e : k = i
        · rw [if_pos ⟨rfl, by omega⟩, e]
        · rw [if_neg (by omega)]; exact hk k (by omega)
      have h3 : g_AL s3 789 = g_AL w 789 := by
        funext j
        rw [hs3, x_AL_AL, if_neg (fun q => absurd q.1 (by decide)), h789]
      have er3 : g_AL s3 917 (32 * n0 + i) = par.getD (par.length - 1 - i) r_c0 c := by rw [(L3.2.1 _ (by omega)).2]; exact hT i (by omega)
      have go := fun b => ih (i + 1) f b s3 (by omega) (by omega) W3 L3 K3 h3
      rw [f_M_lengthen_196, if_neg (by rw [x_le (by omega) (by omega)]; omega), x_gR, f1.1, x_gI, hn1, x_gR, f1.1, n2, show (32 : Int32) = Int32.ofNat 32 from rfl, x_mul, x_add, x_aL (by omega) (by omega), er, x_mul, x_add, x_sL (by omega) (by omega), ← hs3, x_p1, ← n2, List.range'_succ, List.any_cons]
      by_cases ev : v c = r_N
      · rw [if_pos (show v c = 1099511627776 from ev), decide_eq_true ev, Bool.not_true, Bool.false_and, Bool.or_false]
        have g := go b
        rw [decide_eq_true ev, Bool.not_true, Bool.false_and, Bool.or_false] at g
        exact g
      · rw [if_neg (show ¬ v c = 1099511627776 from ev), x_gR, (m_fx (a := 5313) (b := 917) (c := 1600) (W3.fx F) (by decide)).1, x_aL (by omega) (by have := (m_fx (a := 5313) (b := 917) (c := 1600) (W3.fx F) (by decide)).2; omega), er3, decide_eq_false ev, Bool.not_false, Bool.true_and]
        by_cases eq : par.getD (par.length - 1 - i) r_c0 c = v c
        · rw [if_pos eq, decide_eq_true eq, Bool.true_or, Bool.or_true]
          have g := go true
          rw [Bool.true_or] at g
          exact g
        · rw [if_neg eq, decide_eq_false eq, Bool.false_or]
          have g := go b
          rw [decide_eq_false ev, Bool.not_false, Bool.true_and] at g
          exact g
  obtain ⟨w', k1, k2, k3, k4, k5, k6, k7⟩ := key par.length 0 200000 false w (by omega) (by omega) z_W.re M_blw.re (fun k hk => by omega) rfl
  refine ⟨w', k1, k2, k3, k4, k5, ?_, k7⟩
  rw [k6, Bool.false_or, ← List.range_eq_range', r_any_rev]
  unfold r_mk
  rw [hX]
end
