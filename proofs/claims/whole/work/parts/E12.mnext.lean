/-! RUNNING (reference): combinations, counted through -/
def M_pk (w : g_St) (n : Nat) (p : Nat → Nat) : Prop := ∀ k, k < n → g_AI w 4692 k = Int32.ofNat (p k)
def M_cand (w : g_St) (n : Nat) (C : Nat → List Nat) : Prop := ∀ k, k < n → g_AI w 4628 k = Int32.ofNat (C k).length ∧ (C k).length ≤ 48 ∧ ∀ i, i < (C k).length → g_AI w 4564 (64 * k + i) = Int32.ofNat ((C k).getD i 0)
theorem M_cand.mv {u w : g_St} {wI wA : List Nat} (h : z_W wI wA u w) (h1 : 4564 ∉ wA) (h2 : 4628 ∉ wA) {n : Nat} {C : Nat → List Nat} (q : M_cand u n C) : M_cand w n C := by
  unfold M_cand at q ⊢
  rw [h.ai h1, h.ai h2]
  exact q
theorem M_pk.mv {u w : g_St} {wI wA : List Nat} (h : z_W wI wA u w) (h1 : 4692 ∉ wA) {n : Nat} {p : Nat → Nat} (q : M_pk u n p) : M_pk w n p := by
  unfold M_pk at q ⊢
  rw [h.ai h1]
  exact q
section
variable {w : g_St} {s n : Nat} {C : Nat → List Nat}
theorem m_first (F : m_Fix w) (hs : s < 17) (hn : n ≤ 3) (hc : g_AI w 2324 s = Int32.ofNat n) (hC : M_cand w n C) : ∃ w', f_M_first (some 1) (Int32.ofNat s) w = some (z_g ((List.range n).all fun k => decide (0 < (C k).length)), w') ∧ z_W [] [4692] w w' ∧ M_pk w' n (fun _ => 0) := by
  have key : ∀ (d k f : Nat) (b : Bool) (w1 : g_St), k + d = n → d < f → z_W [] [4692] w w1 → (∀ j, j < k → g_AI w1 4692 j = 0) → ∃ w', f_M_first_4 f (some 1) (Int32.ofNat s) (z_g b) (Int32.ofNat k) w1 = some (z_g (b && (List.range' k d).all fun k => decide (0 < (C k).length)), w') ∧ z_W [] [4692] w w' ∧ ∀ j, j < n → g_AI w' 4692 j = 0 := by
    intro d
    induction d with
    | zero =>
      intro k f b w1 e1 e2 hw hp
      obtain ⟨f, rfl⟩ : ∃ m, f = m + 1 := ⟨f - 1, by omega⟩
      have F1 := hw.fx F
      have f1 : g_R w1 2561 1 = some 2324 ∧ g_ln w1 2324 = 17 := F1 (2561, 2324, 17) (by decide)
      rw [f_M_first_4, x_gR, f1.1, x_aI (by omega) (by omega), hw.ai (a := 2324) (by decide), hc, if_pos (by rw [x_le (by omega) (by omega)]; omega)]
      refine ⟨w1, ?_, hw, fun j hj => hp j (by omega)⟩
      cases b <;> rfl
    | succ d ih =>
      intro k f b w1 e1 e2 hw hp
      obtain ⟨f, rfl⟩ : ∃ m, f = m + 1 := ⟨f - 1, by omega⟩
      have F1 := hw.fx F
      have f1 : g_R w1 2561 1 = some 2324 ∧ g_ln w1 2324 = 17 := F1 (2561, 2324, 17) (by decide)
      have f2 : g_R w1 6209 1 = some 4692 ∧ g_ln w1 4692 = 3 := F1 (6209, 4692, 3) (by decide)
      have f3 : g_R w1 6145 1 = some 4628 ∧ g_ln w1 4628 = 3 := F1 (6145, 4628, 3) (by decide)
      obtain ⟨c1, c2, -⟩ := hC k (by omega)
      have W2 : z_W [] [4692] w (g_setAI w1 4692 k 0) := hw.sI (by decide) _ _
      have A2 : ∀ j, j < k + 1 → g_AI (g_setAI w1 4692 k 0) 4692 j = 0 := fun j hj => by
        rw [x_AI_AI]
        by_cases e : j = k
        · rw [if_pos ⟨rfl, e⟩]
        · rw [if_neg (fun q => e q.2)]; exact hp j (by omega)
      have F2 := W2.fx F
      have f3 : g_R (g_setAI w1 4692 k 0) 6145 1 = some 4628 ∧ g_ln (g_setAI w1 4692 k 0) 4628 = 3 := F2 (6145, 4628, 3) (by decide)
      have c3 : g_AI (g_setAI w1 4692 k 0) 4628 k = Int32.ofNat (C k).length := by rw [W2.ai (a := 4628) (by decide)]; exact c1
      rw [f_M_first_4, x_gR, f1.1, x_aI (by omega) (by omega), hw.ai (a := 2324) (by decide), hc, if_neg (by rw [x_le (by omega) (by omega)]; omega), x_gR, f2.1, x_sI (by omega) (by omega), List.range'_succ, List.all_cons]
      generalize g_setAI w1 4692 k 0 = w2 at W2 A2 f3 c3 ⊢
      have st := fun b => ih (k + 1) f b w2 (by omega) (by omega) W2 A2
      cases b with
      | false =>
        rw [if_pos (show z_g false = 0 from rfl), x_p1, Bool.false_and]
        obtain ⟨w', s1, s2⟩ := st false
        exact ⟨w', by rw [Bool.false_and] at s1; exact s1, s2⟩
      | true =>
        rw [if_neg (show ¬ z_g true = 0 from by decide), x_gR, f3.1, x_aI (by omega) (by omega), c3, Bool.true_and]
        by_cases e : 0 < (C k).length
        · rw [if_neg (by show ¬ Int32.ofNat (C k).length ≤ Int32.ofNat 0; rw [x_le (by omega) (by omega)]; omega), decide_eq_true e, x_p1]
          exact st true
        · rw [if_pos (by show Int32.ofNat (C k).length ≤ Int32.ofNat 0; rw [x_le (by omega) (by omega)]; omega), decide_eq_false e, x_p1]
          obtain ⟨w', s1, s2⟩ := st false
          exact ⟨w', s1, s2⟩
  obtain ⟨w', k1, k2, k3⟩ := key n 0 200000 true w (by omega) (by omega) z_W.re (fun j hj => by omega)
  refine ⟨w', ?_, k2, fun k hk => k3 k hk⟩
  rw [List.range_eq_range']
  rw [Bool.true_and] at k1
  exact k1
theorem x_m1' (k : Nat) : Int32.ofNat k + (-1) = Int32.ofNat k - 1 := by rw [Int32.sub_eq_add_neg]
theorem m_next {p : Nat → Nat} (F : m_Fix w) (hs : s < 17) (hn : n ≤ 3) (hc : g_AI w 2324 s = Int32.ofNat n) (hC : M_cand w n C) (hp : M_pk w n p) (hb : ∀ k, k < n → p k < (C k).length) : ∃ w', f_M_next (some 1) (Int32.ofNat s) w = some (z_g (r_nx (fun k => (C k).length) n p).isSome, w') ∧ z_W [] [4692] w w' ∧ ∀ p', r_nx (fun k => (C k).length) n p = some p' → M_pk w' n p' := by
  have key : ∀ (k f : Nat) (p : Nat → Nat) (w1 : g_St), k ≤ n → k < f → z_W [] [4692] w w1 → M_pk w1 n p → (∀ k, k < n → p k < (C k).length) → ∃ w', f_M_next_9 f (some 1) (Int32.ofNat k - 1) w1 = some (z_g (r_nx (fun k => (C k).length) k p).isSome, w') ∧ z_W [] [4692] w w' ∧ ∀ p', r_nx (fun k => (C k).length) k p = some p' → M_pk w' n p' := by
    intro k
    induction k with
    | zero =>
      intro f p w1 e1 e2 hw hp hb
      obtain ⟨f, rfl⟩ : ∃ m, f = m + 1 := ⟨f - 1, by omega⟩
      rw [show Int32.ofNat 0 - 1 = (-1 : Int32) from rfl, f_M_next_9, if_pos (by decide)]
      unfold f_M_next_43
      rw [if_neg (by decide)]
      exact ⟨w1, rfl, hw, fun p' q => by cases q⟩
    | succ k ih =>
      intro f p w1 e1 e2 hw hp hb
      obtain ⟨f, rfl⟩ : ∃ m, f = m + 1 := ⟨f - 1, by omega⟩
      have F1 := hw.fx F
      have f2 : g_R w1 6209 1 = some 4692 ∧ g_ln w1 4692 = 3 := F1 (6209, 4692, 3) (by decide)
      have f3 : g_R w1 6145 1 = some 4628 ∧ g_ln w1 4628 = 3 := F1 (6145, 4628, 3) (by decide)
      obtain ⟨c1, c2, -⟩ := hC k (by omega)
      have bk := hb k (by omega)
      have c3 : g_AI w1 4628 k = Int32.ofNat (C k).length := by rw [hw.ai (a := 4628) (by decide)]; exact c1
      obtain ⟨c, hcc⟩ : ∃ c, (C k).length = c + 1 := ⟨(C k).length - 1, by omega⟩
      rw [x_m1, f_M_next_9, if_neg (by rw [show (0 : Int32) = Int32.ofNat 0 from rfl, x_lt (by omega) (by omega)]; omega), x_gR, f2.1, x_aI (by omega) (by omega), hp k (by omega), x_gR, f3.1, x_aI (by omega) (by omega), c3, hcc, x_m1, r_nx]
      by_cases e : p k = c
      · rw [if_pos (by rw [e]), x_gR, f2.1, x_sI (by omega) (by omega), x_m1', if_pos (by show p k = (C k).length - 1; omega)]
        refine ih f (r_pu p k 0) (g_setAI w1 4692 k 0) (by omega) (by omega) (hw.sI (by decide) _ _) (fun j hj => ?_) (fun j hj => ?_)
        · rw [x_AI_AI]
          unfold r_pu
          by_cases g : j = k
          · rw [if_pos ⟨rfl, g⟩, if_pos g]; rfl
          · rw [if_neg (fun q => g q.2), if_neg g]; exact hp j hj
        · unfold r_pu
          by_cases g : j = k
          · rw [if_pos g, g]; omega
          · rw [if_neg g]; exact hb j hj
      · rw [if_neg (by rw [x_eq (by omega) (by omega)]; exact e), if_neg (by show ¬ p k = (C k).length - 1; omega)]
        unfold f_M_next_43
        rw [if_pos (by rw [show (0 : Int32) = Int32.ofNat 0 from rfl, x_le (by omega) (by omega)]; omega), x_gR, f2.1, x_aI (by omega) (by omega), x_sI (by omega) (by omega), hp k (by omega), x_p1]
        refine ⟨g_setAI w1 4692 k (Int32.ofNat (p k + 1)), rfl, hw.sI (by decide) _ _, fun p' q => ?_⟩
        have q' := Option.some.inj q
        rw [← q']
        intro j hj
        rw [x_AI_AI]
        unfold r_pu
        by_cases g : j = k
        · rw [if_pos ⟨rfl, g⟩, if_pos g]
        · rw [if_neg (fun q => g q.2), if_neg g]; exact hp j hj
  have f1 : g_R w 2561 1 = some 2324 ∧ g_ln w 2324 = 17 := F (2561, 2324, 17) (by decide)
  unfold f_M_next
  rw [x_gR, f1.1, x_aI (by omega) (by omega), hc]
  exact key n 200000 p w (Nat.le_refl _) (by omega) z_W.re hp hb
/-- the picked rows are chosen, and tested -/
theorem m_match {np nt : Nat} {Xs : Nat → r_Pt} {tw : Nat → Nat} {tbl : Nat → List (Nat → Int64)} {P : M_Pl} {mc : Nat → Nat → Nat} {cds : List r_Cd} {p : Nat → Nat} (S : M_st w np nt Xs tw tbl P) (hn : n ≤ 3) (hc : g_AI w 2324 s = Int32.ofNat n) (hC : M_cand w n C) (hp : M_pk w n p) (hb : ∀ k, k < n → p k < (C k).length) (h : M_cds w Xs mc s cds) {env : Nat → Nat → Int64} {D : Nat → Nat → Prop} (hu : ∀ i, i < cds.length → r_ux np nt Xs tw D (cds.getD i r_cd0)) (hD : ∀ k j, D k j → k < n) (hd : ∀ k j, D k j → M_xo ((C k).getD (p k) 0) (mc k j) ∧ M_cl w ((C k).getD (p k) 0) (mc k j) = env k j) : ∃ w', f_M_matches (some 1) (Int32.ofNat s) w = some (z_g (r_cda (r_tb (M_pr P) tbl) cds env), w') ∧ z_W [] [4756] w w' ∧ ∀ k, k < n → g_AI w' 4756 k = Int32.ofNat ((C k).getD (p k) 0) := by
  have F := S.1
  have hs := h.1
  have key : ∀ (d k f : Nat) (w1 : g_St), k + d = n → d < f → z_W [] [4756] w w1 → (∀ j, j < k → g_AI w1 4756 j = Int32.ofNat ((C j).getD (p j) 0)) → ∃ w', f_M_matches_2 f (some 1) (Int32.ofNat s) (Int32.ofNat k) w1 = some (z_g (r_cda (r_tb (M_pr P) tbl) cds env), w') ∧ z_W [] [4756] w w' ∧ ∀ k, k < n → g_AI w' 4756 k = Int32.ofNat ((C k).getD (p k) 0) := by
    intro d
    induction d with
    | zero =>
      intro k f w1 e1 e2 hw ha
      obtain ⟨f, rfl⟩ : ∃ m, f = m + 1 := ⟨f - 1, by omega⟩
      have F1 := hw.fx F
      have f1 : g_R w1 2561 1 = some 2324 ∧ g_ln w1 2324 = 17 := F1 (2561, 2324, 17) (by decide)
      have S1 : M_st w1 np nt Xs tw tbl P := S.mv hw (by decide) (by decide)
      obtain ⟨w', v1, v2, v3⟩ := m_pass S1 (h.mv (hw.mono (by decide) (by decide))) (env := env) hu (fun k j q1 q2 => by
        obtain ⟨y1, y2⟩ := hd k j q2
        refine ⟨_, ha k (by have := hD k j q2; omega), y1, ?_⟩
        unfold M_cl at y2 ⊢
        rw [hw.al (a := 597) (by decide), hw.al (a := 789) (by decide)]
        exact y2)
      rw [f_M_matches_2, x_gR, f1.1, x_aI (by omega) (by omega), hw.ai (a := 2324) (by decide), hc, if_pos (by rw [x_le (by omega) (by omega)]; omega), x_nn, v1, x_c]
      refine ⟨w', ?_, hw.trans v2, fun j hj => ?_⟩
      · cases r_cda (r_tb (M_pr P) tbl) cds env <;> rfl
      · rw [v3 j (by omega)]; exact ha j (by omega)
    | succ d ih =>
      intro k f w1 e1 e2 hw ha
      obtain ⟨f, rfl⟩ : ∃ m, f = m + 1 := ⟨f - 1, by omega⟩
      have F1 := hw.fx F
      have f1 : g_R w1 2561 1 = some 2324 ∧ g_ln w1 2324 = 17 := F1 (2561, 2324, 17) (by decide)
      have f2 : g_R w1 6273 1 = some 4756 ∧ g_ln w1 4756 = 4 := F1 (6273, 4756, 4) (by decide)
      have f3 : g_R w1 6081 1 = some 4564 ∧ g_ln w1 4564 = 192 := F1 (6081, 4564, 192) (by decide)
      have f4 : g_R w1 6209 1 = some 4692 ∧ g_ln w1 4692 = 3 := F1 (6209, 4692, 3) (by decide)
      obtain ⟨c1, c2, c3⟩ := hC k (by omega)
      have bk := hb k (by omega)
      rw [f_M_matches_2, x_gR, f1.1, x_aI (by omega) (by omega), hw.ai (a := 2324) (by decide), hc, if_neg (by rw [x_le (by omega) (by omega)]; omega), x_gR, f2.1, x_gR, f3.1, x_gR, f4.1, x_aI (by omega) (by omega), hw.ai (a := 4692) (by decide), hp k (by omega), show (64 : Int32) = Int32.ofNat 64 from rfl, x_mul, x_add, x_aI (by omega) (by omega), hw.ai (a := 4564) (by decide), c3 (p k) bk, x_sI (by omega) (by omega), x_p1]
      refine ih (k + 1) f _ (by omega) (by omega) (hw.sI (by decide) _ _) (fun j hj => ?_)
      rw [x_AI_AI]
      by_cases g : j = k
      · rw [if_pos ⟨rfl, g⟩, g]
      · rw [if_neg (fun q => g q.2)]; exact ha j (by omega)
  unfold f_M_matches
  exact key n 0 200000 w (by omega) (by omega) z_W.re (fun j hj => by omega)
end
