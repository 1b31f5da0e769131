/-! RUNNING (reference): a row's parent, and what stays of the rows before -/
theorem M_mc_inl {np nt : Nat} (n5 : nt ≤ 5) {m : Nat ⊕ Nat} (h : M_ok np nt m) {p : Nat} (hp : p < 4) (np4 : np ≤ 4) : (Int32.ofNat (M_mc m) = 10 + Int32.ofNat p) = (m = .inl p) := by
  rw [show (10 : Int32) = Int32.ofNat 10 from rfl, x_add]
  cases m with
  | inl q =>
    have hq : q < np := h
    show (Int32.ofNat (10 + q) = Int32.ofNat (10 + p)) = _
    rw [x_eq (by omega) (by omega)]
    exact propext ⟨fun e => by rw [show q = p by omega], fun e => by cases e; rfl⟩
  | inr t =>
    have ht : t < nt := h
    show (Int32.ofNat t = Int32.ofNat (10 + p)) = _
    rw [x_eq (by omega) (by omega)]
    exact propext ⟨fun e => by omega, fun e => by cases e⟩
/-- the sources of a selection -/
def M_sov (w : g_St) (np nt s : Nat) (ms : List (Nat ⊕ Nat)) : Prop := s < 17 ∧ ms.length ≤ 3 ∧ g_AI w 2324 s = Int32.ofNat ms.length ∧ ∃ b, g_AI w 2260 s = Int32.ofNat b ∧ b + ms.length ≤ 100 ∧ ∀ k, k < ms.length → M_ok np nt (r_ml ms k) ∧ g_AI w 3220 (b + k) = Int32.ofNat (M_mc (r_ml ms k))
theorem M_sov.mv {u w : g_St} (h : M_K u w) {np nt s : Nat} {ms : List (Nat ⊕ Nat)} (q : M_sov u np nt s ms) : M_sov w np nt s ms := by
  unfold M_sov at q ⊢
  rw [h.ai (a := 2324) (by decide), h.ai (a := 2260) (by decide), h.ai (a := 3220) (by decide)]
  exact q
section
variable {w : g_St} {np nt s p : Nat} {ms : List (Nat ⊕ Nat)}
theorem m_par5 (F : m_Fix w) (n5 : nt ≤ 5) (np4 : np ≤ 4) (hp : p < 4) (H : M_sov w np nt s ms) : (∀ (d i f : Nat) (x3 : Int32), i + d = ms.length → d < f → (∀ k, i ≤ k → k < ms.length → r_ml ms k ≠ .inl p) → f_M_parent_5 f (some 1) (Int32.ofNat s) (Int32.ofNat p) x3 (Int32.ofNat i) w = some (x3, w)) ∧ ∀ (k0 : Nat) (x : Int32), k0 < ms.length → r_ml ms k0 = .inl p → (∀ k, k < ms.length → r_ml ms k = .inl p → k = k0) → g_AI w 4756 k0 - 100 = x → ∀ (d i f : Nat) (x3 : Int32), i + d = ms.length → d < f → i ≤ k0 → f_M_parent_5 f (some 1) (Int32.ofNat s) (Int32.ofNat p) x3 (Int32.ofNat i) w = some (x, w) := by
  have f1 : g_R w 2561 1 = some 2324 ∧ g_ln w 2324 = 17 := F (2561, 2324, 17) (by decide)
  have f2 : g_R w 3777 1 = some 3220 ∧ g_ln w 3220 = 100 := F (3777, 3220, 100) (by decide)
  have f3 : g_R w 2497 1 = some 2260 ∧ g_ln w 2260 = 17 := F (2497, 2260, 17) (by decide)
  have f4 : g_R w 6273 1 = some 4756 ∧ g_ln w 4756 = 4 := F (6273, 4756, 4) (by decide)
  obtain ⟨h1, h2, h3, b, h4, h5, h6⟩ := H
  have A : ∀ (d i f : Nat) (x3 : Int32), i + d = ms.length → d < f → (∀ k, i ≤ k → k < ms.length → r_ml ms k ≠ .inl p) → f_M_parent_5 f (some 1) (Int32.ofNat s) (Int32.ofNat p) x3 (Int32.ofNat i) w = some (x3, w) := by
    intro d
    induction d with
    | zero =>
      intro i f x3 e1 e2 _
      obtain ⟨f, rfl⟩ : ∃ m, f = m + 1 := ⟨f - 1, by omega⟩
      rw [f_M_parent_5, x_gR, f1.1, x_aI (by omega) (by omega), h3, if_pos (by rw [x_le (by omega) (by omega)]; omega)]
    | succ d ih =>
      intro i f x3 e1 e2 hn
      obtain ⟨f, rfl⟩ : ∃ m, f = m + 1 := ⟨f - 1, by omega⟩
      obtain ⟨m1, m2⟩ := h6 i (by omega)
      rw [f_M_parent_5, x_gR, f1.1, x_aI (by omega) (by omega), h3, if_neg (by rw [x_le (by omega) (by omega)]; omega), x_gR, f2.1, x_gR, f3.1, x_aI (by omega) (by omega), h4, x_add, x_aI (by omega) (by omega), m2, if_neg (by rw [M_mc_inl n5 m1 hp np4]; exact hn i (Nat.le_refl _) (by omega)), x_p1]
      exact ih (i + 1) f x3 (by omega) (by omega) (fun k a b => hn k (by omega) b)
  refine ⟨A, fun k0 x hk0 hm hun hx => ?_⟩
  intro d
  induction d with
  | zero => intro i f x3 e1 e2 e3; omega
  | succ d ih =>
    intro i f x3 e1 e2 e3
    obtain ⟨f, rfl⟩ : ∃ m, f = m + 1 := ⟨f - 1, by omega⟩
    obtain ⟨m1, m2⟩ := h6 i (by omega)
    rw [f_M_parent_5, x_gR, f1.1, x_aI (by omega) (by omega), h3, if_neg (by rw [x_le (by omega) (by omega)]; omega), x_gR, f2.1, x_gR, f3.1, x_aI (by omega) (by omega), h4, x_add, x_aI (by omega) (by omega), m2]
    by_cases e : i = k0
    · rw [if_pos (by rw [M_mc_inl n5 m1 hp np4, e]; exact hm), x_gR, f4.1, x_aI (by omega) (by omega), x_p1, A d (i + 1) f _ (by omega) (by omega) (fun k a b q => by have := hun k b q; omega), e, hx]
    · rw [if_neg (by rw [M_mc_inl n5 m1 hp np4]; exact fun q => e (hun i (by omega) q)), x_p1]
      exact ih (i + 1) f x3 (by omega) (by omega) (by omega)
/-- the parent: none, or row n0 -/
theorem m_par (F : m_Fix w) (n5 : nt ≤ 5) (np4 : np ≤ 4) (hp : p < 4) (H : M_sov w np nt s ms) (hun : ∀ k k', k < ms.length → k' < ms.length → r_ml ms k = .inl p → r_ml ms k' = .inl p → k = k') : ((∀ k, k < ms.length → r_ml ms k ≠ .inl p) → f_M_parent (some 1) (Int32.ofNat s) (Int32.ofNat p) w = some (-1, w)) ∧ ∀ k0 n0, k0 < ms.length → r_ml ms k0 = .inl p → g_AI w 4756 k0 = Int32.ofNat (100 + n0) → f_M_parent (some 1) (Int32.ofNat s) (Int32.ofNat p) w = some (Int32.ofNat n0, w) := by
  obtain ⟨a, b⟩ := m_par5 F n5 np4 hp H
  have l3 := H.2.1
  refine ⟨fun h => a ms.length 0 200000 (-1) (by omega) (by omega) (fun k _ hk => h k hk), fun k0 n0 h1 h2 h3 => ?_⟩
  exact b k0 (Int32.ofNat n0) h1 h2 (fun k hk q => hun k k0 hk h1 q h2) (by rw [h3, show (100 : Int32) = Int32.ofNat 100 from rfl, x_sub (by omega), show 100 + n0 - 100 = n0 by omega]) ms.length 0 200000 (-1) (by omega) (by omega) (Nat.zero_le _)
end
/-- the rows before n stay -/
def M_blw (n : Nat) (w w' : g_St) : Prop := (∀ j, j < 4 * n → g_AL w' 789 j = g_AL w 789 j) ∧ (∀ j, j < 32 * n → g_AL w' 853 j = g_AL w 853 j ∧ g_AL w' 917 j = g_AL w 917 j) ∧ ∀ j, j < n → g_AI w' 4116 j = g_AI w 4116 j ∧ g_AI w' 4180 j = g_AI w 4180 j ∧ g_AI w' 4244 j = g_AI w 4244 j
theorem M_blw.re {n : Nat} {w : g_St} : M_blw n w w := ⟨fun _ _ => rfl, fun _ _ => ⟨rfl, rfl⟩, fun _ _ => ⟨rfl, rfl, rfl⟩⟩
theorem M_blw.trans {n : Nat} {u v w : g_St} (a : M_blw n u v) (b : M_blw n v w) : M_blw n u w := ⟨fun j h => (b.1 j h).trans (a.1 j h), fun j h => ⟨(b.2.1 j h).1.trans (a.2.1 j h).1, (b.2.1 j h).2.trans (a.2.1 j h).2⟩, fun j h => ⟨(b.2.2 j h).1.trans (a.2.2 j h).1, (b.2.2 j h).2.1.trans (a.2.2 j h).2.1, (b.2.2 j h).2.2.trans (a.2.2 j h).2.2⟩⟩
theorem M_blw.sL {n : Nat} {u w : g_St} (a : M_blw n u w) {c j : Nat} {v : Int64} (h : (c = 789 → 4 * n ≤ j) ∧ (c = 853 ∨ c = 917 → 32 * n ≤ j)) : M_blw n u (g_setAL w c j v) := ⟨fun i hi => by
  rw [x_AL_AL, if_neg (fun q => by have := h.1 q.1.symm; omega)]; exact a.1 i hi, fun i hi => by
  rw [x_AL_AL, if_neg (fun q => by have := h.2 (Or.inl q.1.symm); omega), x_AL_AL, if_neg (fun q => by have := h.2 (Or.inr q.1.symm); omega)]; exact a.2.1 i hi, a.2.2⟩
theorem M_blw.sI {n : Nat} {u w : g_St} (a : M_blw n u w) {c j : Nat} {v : Int32} (h : n ≤ j) : M_blw n u (g_setAI w c j v) := ⟨a.1, a.2.1, fun i hi => by
  rw [x_AI_AI, if_neg (fun q => by omega), x_AI_AI, if_neg (fun q => by omega), x_AI_AI, if_neg (fun q => by omega)]; exact a.2.2 i hi⟩
theorem M_blw.row {n : Nat} {w w' : g_St} (a : M_blw n w w') {X : r_Pt} (x3 : X.1 ≤ 3) {m : Nat} (hm : m < n) {r : r_Row} (h : M_row w X m r) : M_row w' X m r := by
  obtain ⟨h1, h2, h3, h4, h5, h6, h7⟩ := h
  obtain ⟨a1, a2, a3⟩ := a
  refine ⟨fun j hj => (a1 _ (by omega)).trans (h1 j hj), fun q => (a1 _ (by omega)).trans (h2 q), h3, fun q => (a3 m hm).2.1.trans (h4 q), fun b c q => ?_, fun q => (a3 m hm).2.2.trans (h6 q), fun c q => ?_⟩
  · obtain ⟨y1, y2⟩ := h5 b c q
    exact ⟨(a3 m hm).2.1.trans y1, fun k hk => ((a2 _ (by omega)).1).trans (y2 k hk)⟩
  · obtain ⟨y1, y2⟩ := h7 c q
    exact ⟨(a3 m hm).2.2.trans y1, fun k hk => ((a2 _ (by omega)).2).trans (y2 k hk)⟩
/-- the rows that are there, behind a change above -/
theorem M_po.lo {w w' : g_St} {np : Nat} {Xs : Nat → r_Pt} {P : M_Pl} (w3 : ∀ q, q < np → (Xs q).1 ≤ 3) (h : M_po w np Xs P) (a : M_blw P.length w w') (hi : g_I w' 4929 1 = g_I w 4929 1) : M_po w' np Xs P := by
  obtain ⟨h1, h2, h3⟩ := h
  refine ⟨hi.trans h1, h2, fun n q r hr => ?_⟩
  have il : n < P.length := by
    by_cases g : n < P.length
    · exact g
    · rw [List.getElem?_eq_none (by omega)] at hr; cases hr
  obtain ⟨c1, c2, c3⟩ := h3 n q r hr
  exact ⟨c1, (a.2.2 n il).1.trans c2, a.row (w3 q c1) il c3⟩
