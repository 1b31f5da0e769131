/-! THE GRAMMAR: what both readers read, as functions of the tokens' kinds -/
/-- stuck at a token, or what was read and the place behind it -/
abbrev z_R (α : Type) : Type := Nat ⊕ (α × Nat)
def z_bd {α β : Type} (x : z_R α) (f : α → Nat → z_R β) : z_R β := match x with
  | .inl p => .inl p
  | .inr q => f q.1 q.2
theorem z_bd_r {α β : Type} (v : α) (p : Nat) (f : α → Nat → z_R β) : z_bd (.inr (v, p)) f = f v p := rfl
theorem z_bd_l {α β : Type} (p : Nat) (f : α → Nat → z_R β) : z_bd (.inl p : z_R α) f = .inl p := rfl
def z_nd (kd : Nat → Nat) (k p : Nat) : z_R Unit := if kd p = k then .inr ((), p + 1) else .inl p
/-- an operand: 0 a number, 1 NULL, 2 a column; its token -/
def z_op1 (kd : Nat → Nat) (p : Nat) : z_R (Nat × Nat) :=
  if kd p = 10 then .inr ((1, p), p + 1) else if kd p = 37 then .inr ((0, p), p + 1) else
    z_bd (z_nd kd 36 p) fun _ p1 => z_bd (z_nd kd 28 p1) fun _ p2 => z_bd (z_nd kd 36 p2) fun _ p3 => .inr ((2, p), p3)
/-- an expression: operands, each with whether it is taken away -/
abbrev z_Ex : Type := List (Bool × Nat × Nat)
def z_ex (kd : Nat → Nat) : Nat → Nat → z_R z_Ex
  | 0, p => .inr ([], p)
  | d + 1, p => if kd p = 30 then z_bd (z_op1 kd (p + 1)) fun o p1 => z_bd (z_ex kd d p1) fun l p2 => .inr ((true, o) :: l, p2)
    else if kd p = 29 then z_bd (z_op1 kd (p + 1)) fun o p1 => z_bd (z_ex kd d p1) fun l p2 => .inr ((false, o) :: l, p2)
    else .inr ([], p)
def z_expr (kd : Nat → Nat) (p : Nat) : z_R z_Ex := z_bd (z_op1 kd p) fun o p1 => z_bd (z_ex kd 3 p1) fun l p2 => .inr ((false, o) :: l, p2)
/-! the reference reads an operand -/
theorem z_tkM.sI {u : g_St} {n : Nat} {kd pl : Nat → Nat} {vl : Nat → Int64} (h : z_tkM u n kd pl vl) {a : Nat} (h1 : a ≠ 1108) (h2 : a ≠ 1172) (j : Nat) (v : Int32) : z_tkM (g_setAI u a j v) n kd pl vl := fun i hi => by
  rw [x_AI_AI, x_AI_AI, if_neg (fun w => h1 w.1.symm), if_neg (fun w => h2 w.1.symm)]
  exact h i hi
theorem z_tkM.W {u v : g_St} {n : Nat} {kd pl : Nat → Nat} {vl : Nat → Int64} {wI wA : List Nat} (h : z_tkM u n kd pl vl) (w : z_W wI wA u v) (h1 : 1108 ∉ wA) (h2 : 1172 ∉ wA) (h3 : 725 ∉ wA) : z_tkM v n kd pl vl := fun i hi => by
  rw [(w.2.2.2.2.2.2.2.2 1108 h1).1, (w.2.2.2.2.2.2.2.2 1172 h2).1, (w.2.2.2.2.2.2.2.2 725 h3).2]
  exact h i hi
/-- the reference reads on at p, or is stuck at q -/
def z_at (u : g_St) (p : Nat) : Prop := g_I u 833 1 = 0 ∧ g_I u 577 1 = Int32.ofNat p
def z_st (u : g_St) (pl : Nat → Nat) (q : Nat) : Prop := g_I u 833 1 = 1 ∧ g_I u 897 1 = Int32.ofNat (pl q) ∧ g_I u 577 1 = Int32.ofNat q
/-- how a piece came out: the result's place, or stuck -/
def z_out {α : Type} (u : g_St) (pl : Nat → Nat) (r : z_R α) : Prop := match r with
  | .inl q => z_st u pl q
  | .inr x => z_at u x.2
section
variable {n : Nat} {kd pl : Nat → Nat} {vl : Nat → Int64}
theorem z_out_bd {α β : Type} {u : g_St} {x : z_R α} {f : α → Nat → z_R β} (h : ∀ q, x = .inl q → z_st u pl q) (g : ∀ v p, x = .inr (v, p) → z_out u pl (f v p)) : z_out u pl (z_bd x f) := by
  cases x with
  | inl q => exact h q rfl
  | inr v => exact g v.1 v.2 rfl
/-- the reference's need, in these words -/
theorem m_need {u : g_St} (hm : m_Fix u) (ht : z_tkM u n kd pl vl) (hk : ∀ i, kd i < 40) (hn : n ≤ 400) {p : Nat} (hp : p ≤ n) (ha : z_at u p) {k : Nat} (hk2 : k < 40) : ∃ v u', f_M_need (some 1) (z_km k) u = some (v, u') ∧ z_out u' pl (z_nd kd k p) ∧ (kd p = k → v = Int32.ofNat p ∧ u' = g_setI u 577 1 (Int32.ofNat (p + 1))) ∧ (kd p ≠ k → u' = g_setI (g_setI u 833 1 1) 897 1 (Int32.ofNat (pl p))) := by
  rw [pM_need hm ht hk hn hp ha.1 ha.2 hk2]
  unfold z_nd
  by_cases w : kd p = k
  · rw [if_pos w, if_pos w]
    refine ⟨_, _, rfl, ⟨?_, ?_⟩, fun _ => ⟨rfl, rfl⟩, fun q => absurd w q⟩
    · rw [x_I_I, if_neg (fun q => by have := q.1; omega)]; exact ha.1
    · rw [x_I_I, if_pos ⟨rfl, rfl⟩]
  · rw [if_neg w, if_neg w]
    refine ⟨_, _, rfl, ⟨?_, ?_, ?_⟩, fun q => absurd q w, fun _ => rfl⟩
    · rw [x_I_I, if_neg (fun q => by have := q.1; omega), x_I_I, if_pos ⟨rfl, rfl⟩]
    · rw [x_I_I, if_pos ⟨rfl, rfl⟩]
    · rw [x_I_I, if_neg (fun q => by have := q.1; omega), x_I_I, if_neg (fun q => by have := q.1; omega)]; exact ha.2
/-- an operand is written at o -/
def z_sgn (mn : Bool) : Int32 := if mn = true then -1 else 1
def M_op (u : g_St) (o : Nat) (x : Bool × Nat × Nat) : Prop := g_AI u 2836 o = z_sgn x.1 ∧ g_AI u 2772 o = Int32.ofNat x.2.1 ∧ g_AI u 2900 o = Int32.ofNat x.2.2
def M_kept (u u' : g_St) (o : Nat) : Prop := ∀ j, j ≠ o → g_AI u' 2836 j = g_AI u 2836 j ∧ g_AI u' 2772 j = g_AI u 2772 j ∧ g_AI u' 2900 j = g_AI u 2900 j
theorem m_operand {u : g_St} (hm : m_Fix u) (ht : z_tkM u n kd pl vl) (hk : ∀ i, kd i < 40) (hn : n ≤ 400) (hend : ∀ p, p ≤ n → kd p ≠ 38 → p < n) {p o : Nat} (hp : p ≤ n) (ha : z_at u p) (ho : g_I u 3073 1 = Int32.ofNat o) (ho2 : o < 210) (mn : Bool) :
    ∃ u', f_M_readOperand (some 1) (z_sgn mn) u = some ((), u') ∧ z_W [577, 833, 897, 3073] [2772, 2836, 2900] u u' ∧ g_I u' 3073 1 = Int32.ofNat (o + 1) ∧ M_kept u u' o ∧ z_out u' pl (z_op1 kd p) ∧ ∀ x q, z_op1 kd p = .inr (x, q) → M_op u' o (mn, x) ∧ q ≤ n ∧ p < q := by
  generalize hsg : z_sgn mn = sg
  have l1 : g_ln u 2836 = 210 := (hm _ m_k3329).2
  have l2 : g_ln u 2900 = 210 := (hm _ m_k3393).2
  have l3 : g_ln u 2772 = 210 := (hm _ m_k3265).2
  -- the state behind the first stores
  obtain ⟨s0, hs0⟩ : ∃ s0, s0 = (g_setAI (g_setAI (g_setI u 3073 1 (Int32.ofNat (o + 1))) 2836 o sg) 2900 o (Int32.ofNat p)) := ⟨_, rfl⟩
  have m0 : m_Fix s0 := by rw [hs0]; exact hm
  have t0 : z_tkM s0 n kd pl vl := by rw [hs0]; exact (ht.sI (by decide) (by decide) o sg).sI (by decide) (by decide) o _
  have a0 : z_at s0 p := by
    rw [hs0]
    refine ⟨?_, ?_⟩
    · show g_I (g_setI u 3073 1 (Int32.ofNat (o + 1))) 833 1 = 0
      rw [x_I_I, if_neg (fun q => by have := q.1; omega)]; exact ha.1
    · show g_I (g_setI u 3073 1 (Int32.ofNat (o + 1))) 577 1 = _
      rw [x_I_I, if_neg (fun q => by have := q.1; omega)]; exact ha.2
  have o0 : g_I s0 3073 1 = Int32.ofNat (o + 1) := by
    rw [hs0]
    show g_I (g_setI u 3073 1 (Int32.ofNat (o + 1))) 3073 1 = _
    rw [x_I_I, if_pos ⟨rfl, rfl⟩]
  have k0 : M_kept u s0 o ∧ g_AI s0 2836 o = sg ∧ g_AI s0 2900 o = Int32.ofNat p := by
    have f1 : ∀ a j, g_AI s0 a j = if a = 2900 ∧ j = o then Int32.ofNat p else if a = 2836 ∧ j = o then sg else g_AI u a j := fun a j => by
      rw [hs0, x_AI_AI, x_AI_AI]; rfl
    refine ⟨fun j hj => ⟨?_, ?_, ?_⟩, ?_, ?_⟩
    · rw [f1, if_neg (fun w => hj w.2), if_neg (fun w => hj w.2)]
    · rw [f1, if_neg (fun w => hj w.2), if_neg (fun w => hj w.2)]
    · rw [f1, if_neg (fun w => hj w.2), if_neg (fun w => hj w.2)]
    · rw [f1, if_neg (fun w => by have := w.1; omega), if_pos ⟨rfl, rfl⟩]
    · rw [f1, if_pos ⟨rfl, rfl⟩]
  have l0 : g_ln s0 2772 = 210 := (m0 _ m_k3265).2
  have core : ∀ (k : Nat), k ≤ 2 → ∃ s1, f_M_readOperand_64 (some 1) (Int32.ofNat o) (some 2772) (Int32.ofNat o) (Int32.ofNat k) s0 = (if 2 ≤ k then g_c (f_M_need (some 1) 30 s1) fun _ s5 => g_c (f_M_needSign (some 1) 46 s5) fun _ s7 => g_c (f_M_need (some 1) 30 s7) fun _ s9 => some ((), s9) else some ((), g_setI s1 577 1 (Int32.ofNat (p + 1)))) ∧
      m_Fix s1 ∧ z_tkM s1 n kd pl vl ∧ z_at s1 p ∧ g_I s1 3073 1 = Int32.ofNat (o + 1) ∧ M_kept u s1 o ∧ g_AI s1 2836 o = sg ∧ g_AI s1 2772 o = Int32.ofNat k ∧ g_AI s1 2900 o = Int32.ofNat p := by
    intro k hk2
    have g1 : ∀ a j, g_AI (g_setAI s0 2772 o (Int32.ofNat k)) a j = if a = 2772 ∧ j = o then Int32.ofNat k else g_AI s0 a j := fun a j => x_AI_AI ..
    refine ⟨g_setAI s0 2772 o (Int32.ofNat k), ?_, m0, t0.sI (by decide) (by decide) o _, a0, o0, fun j hj => ?_, ?_, ?_, ?_⟩
    · unfold f_M_readOperand_64
      rw [x_sI (by omega) (by omega), x_gR, show g_R (g_setAI s0 2772 o (Int32.ofNat k)) 3265 1 = some 2772 from (m0 _ m_k3265).1, x_aI (by omega) (by show o < g_ln s0 2772; omega), show g_AI (g_setAI s0 2772 o (Int32.ofNat k)) 2772 o = Int32.ofNat k from (by rw [g1, if_pos ⟨rfl, rfl⟩])]
      have e2 : (2 ≤ Int32.ofNat k) = (2 ≤ k) := x_le (a := 2) (by decide) (by omega)
      by_cases q : 2 ≤ k
      · rw [if_pos (by rw [e2]; exact q), if_pos q]
        rfl
      · rw [if_neg (by rw [e2]; exact q), if_neg q, x_gI, show g_I (g_setAI s0 2772 o (Int32.ofNat k)) 577 1 = Int32.ofNat p from a0.2, x_pI, x_p1]
    · have q := k0.1 j hj
      rw [g1, g1, g1, if_neg (fun w => hj w.2), if_neg (fun w => hj w.2), if_neg (fun w => hj w.2)]
      exact q
    · rw [g1, if_neg (fun w => by have := w.1; omega)]; exact k0.2.1
    · rw [g1, if_pos ⟨rfl, rfl⟩]
    · rw [g1, if_neg (fun w => by have := w.1; omega)]; exact k0.2.2
  have start : f_M_readOperand (some 1) sg u = if kd p = 37 then f_M_readOperand_64 (some 1) (Int32.ofNat o) (some 2772) (Int32.ofNat o) (Int32.ofNat 0) s0 else if kd p = 10 then f_M_readOperand_64 (some 1) (Int32.ofNat o) (some 2772) (Int32.ofNat o) (Int32.ofNat 1) s0 else f_M_readOperand_64 (some 1) (Int32.ofNat o) (some 2772) (Int32.ofNat o) (Int32.ofNat 2) s0 := by
    unfold f_M_readOperand
    have i577 : g_I (g_setI u 3073 1 (Int32.ofNat (o + 1))) 577 1 = Int32.ofNat p := by rw [x_I_I, if_neg (fun q => by have := q.1; omega)]; exact ha.2
    rw [x_gI, ho, x_gI, ho, x_pI, x_p1, x_gR, show g_R (g_setI u 3073 1 (Int32.ofNat (o + 1))) 3329 1 = some 2836 from (hm _ m_k3329).1, x_sI (by omega) (by show o < g_ln u 2836; omega), x_gR, show g_R (g_setAI (g_setI u 3073 1 (Int32.ofNat (o + 1))) 2836 o sg) 3393 1 = some 2900 from (hm _ m_k3393).1, x_gI, show g_I (g_setAI (g_setI u 3073 1 (Int32.ofNat (o + 1))) 2836 o sg) 577 1 = Int32.ofNat p from i577, x_sI (by omega) (by show o < g_ln u 2900; omega), ← hs0, x_gR, (m0 _ m_k3265).1]
    rw [x_nn, show (31 : Int32) = z_km 37 from rfl, pM_is m0 t0 hk hn hp a0.1 a0.2 (by decide)]
    by_cases q : kd p = 37
    · rw [if_pos q, if_pos q, x_c, if_neg (by decide)]; rfl
    · rw [if_neg q, if_neg q, x_c, if_pos rfl, x_nn, show (11 : Int32) = z_km 10 from rfl, pM_is m0 t0 hk hn hp a0.1 a0.2 (by decide)]
      by_cases q2 : kd p = 10
      · rw [if_pos q2, if_pos q2, x_c, if_neg (by decide)]; rfl
      · rw [if_neg q2, if_neg q2, x_c, if_pos rfl]; rfl
  have wrap : ∀ u', f_M_readOperand (some 1) sg u = some ((), u') → z_W [577, 833, 897, 3073] [2772, 2836, 2900] u u' := fun u' h => w_M_readOperand _ _ hm h
  have mop : ∀ (s1 : g_St) (k t : Nat), g_AI s1 2836 o = sg → g_AI s1 2772 o = Int32.ofNat k → g_AI s1 2900 o = Int32.ofNat t → M_op s1 o (mn, k, t) := fun s1 k t h1 h2 h3 => ⟨by rw [h1, ← hsg], h2, h3⟩
  unfold z_op1
  by_cases q10 : kd p = 10
  · obtain ⟨s1, c1, c2, c3, c4, c5, c6, c7, c8, c9⟩ := core 1 (by decide)
    rw [if_neg (by decide)] at c1
    rw [if_neg (by omega), if_pos q10, c1] at start
    refine ⟨_, start, wrap _ start, ?_, c6, ?_, ?_⟩
    · rw [x_I_I, if_neg (fun q => by have := q.1; omega)]; exact c5
    · rw [if_pos q10]
      exact ⟨by rw [x_I_I, if_neg (fun q => by have := q.1; omega)]; exact c4.1, by rw [x_I_I, if_pos ⟨rfl, rfl⟩]⟩
    · rw [if_pos q10]
      intro x q e
      cases e
      exact ⟨mop s1 1 p c7 c8 c9, by have := hend p hp (by omega); omega, by omega⟩
  · by_cases q37 : kd p = 37
    · obtain ⟨s1, c1, c2, c3, c4, c5, c6, c7, c8, c9⟩ := core 0 (by decide)
      rw [if_neg (by decide)] at c1
      rw [if_pos q37, c1] at start
      refine ⟨_, start, wrap _ start, ?_, c6, ?_, ?_⟩
      · rw [x_I_I, if_neg (fun q => by have := q.1; omega)]; exact c5
      · rw [if_neg q10, if_pos q37]
        exact ⟨by rw [x_I_I, if_neg (fun q => by have := q.1; omega)]; exact c4.1, by rw [x_I_I, if_pos ⟨rfl, rfl⟩]⟩
      · rw [if_neg q10, if_pos q37]
        intro x q e
        cases e
        exact ⟨mop s1 0 p c7 c8 c9, by have := hend p hp (by omega); omega, by omega⟩
    · obtain ⟨s1, c1, c2, c3, c4, c5, c6, c7, c8, c9⟩ := core 2 (by decide)
      rw [if_pos (by decide)] at c1
      rw [if_neg q37, if_neg q10, c1] at start
      rw [if_neg q10, if_neg q37]
      rw [show (30 : Int32) = z_km 36 from rfl] at start
      unfold f_M_needSign at start
      rw [show ((100 : Int32) + 46) = z_km 28 from rfl] at start
      obtain ⟨v1, s5, d1, d2, d3, d4⟩ := m_need c2 c3 hk hn hp c4 (k := 36) (by decide)
      rw [d1, x_c] at start
      by_cases w1 : kd p = 36
      · obtain ⟨-, e5⟩ := d3 w1
        have hp1 := hend p hp (by omega)
        have nd1 : z_nd kd 36 p = .inr ((), p + 1) := if_pos w1
        rw [nd1] at d2
        have m5 : m_Fix s5 := by rw [e5]; exact c2
        have t5 : z_tkM s5 n kd pl vl := by rw [e5]; exact c3
        have o5 : g_I s5 3073 1 = Int32.ofNat (o + 1) := by rw [e5, x_I_I, if_neg (fun q => by have := q.1; omega)]; exact c5
        have k5 : M_kept u s5 o ∧ g_AI s5 2836 o = sg ∧ g_AI s5 2772 o = Int32.ofNat 2 ∧ g_AI s5 2900 o = Int32.ofNat p := by rw [e5]; exact ⟨c6, c7, c8, c9⟩
        obtain ⟨v2, s7, f1, f2, f3, f4⟩ := m_need m5 t5 hk hn (show p + 1 ≤ n by omega) d2 (k := 28) (by decide)
        rw [x_nn, f1, x_c, x_c] at start
        rw [nd1]
        by_cases w2 : kd (p + 1) = 28
        · obtain ⟨-, e7⟩ := f3 w2
          have hp2 := hend (p + 1) (by omega) (by omega)
          have nd2 : z_nd kd 28 (p + 1) = .inr ((), p + 1 + 1) := if_pos w2
          rw [nd2] at f2
          have m7 : m_Fix s7 := by rw [e7]; exact m5
          have t7 : z_tkM s7 n kd pl vl := by rw [e7]; exact t5
          have o7 : g_I s7 3073 1 = Int32.ofNat (o + 1) := by rw [e7, x_I_I, if_neg (fun q => by have := q.1; omega)]; exact o5
          have k7 : M_kept u s7 o ∧ g_AI s7 2836 o = sg ∧ g_AI s7 2772 o = Int32.ofNat 2 ∧ g_AI s7 2900 o = Int32.ofNat p := by rw [e7]; exact k5
          obtain ⟨v3, s9, g1, g2, g3, g4⟩ := m_need m7 t7 hk hn (show p + 1 + 1 ≤ n by omega) f2 (k := 36) (by decide)
          rw [g1, x_c] at start
          have o9 : g_I s9 3073 1 = Int32.ofNat (o + 1) := by
            by_cases w3 : kd (p + 1 + 1) = 36
            · rw [(g3 w3).2, x_I_I, if_neg (fun q => by have := q.1; omega)]; exact o7
            · rw [g4 w3, x_I_I, if_neg (fun q => by have := q.1; omega), x_I_I, if_neg (fun q => by have := q.1; omega)]; exact o7
          have k9 : M_kept u s9 o ∧ g_AI s9 2836 o = sg ∧ g_AI s9 2772 o = Int32.ofNat 2 ∧ g_AI s9 2900 o = Int32.ofNat p := by
            by_cases w3 : kd (p + 1 + 1) = 36
            · rw [(g3 w3).2]; exact k7
            · rw [g4 w3]; exact k7
          refine ⟨s9, start, wrap _ start, o9, k9.1, ?_, ?_⟩
          · rw [z_bd_r, nd2, z_bd_r]
            by_cases w3 : kd (p + 1 + 1) = 36
            · rw [show z_nd kd 36 (p + 1 + 1) = .inr ((), p + 1 + 1 + 1) from if_pos w3] at g2 ⊢
              exact g2
            · rw [show z_nd kd 36 (p + 1 + 1) = .inl (p + 1 + 1) from if_neg w3] at g2 ⊢
              exact g2
          · intro x q e
            rw [z_bd_r, nd2, z_bd_r] at e
            by_cases w3 : kd (p + 1 + 1) = 36
            · rw [show z_nd kd 36 (p + 1 + 1) = .inr ((), p + 1 + 1 + 1) from if_pos w3] at e
              cases e
              exact ⟨mop s9 2 p k9.2.1 k9.2.2.1 k9.2.2.2, by have := hend (p + 1 + 1) (by omega) (by omega); omega, by omega⟩
            · rw [show z_nd kd 36 (p + 1 + 1) = .inl (p + 1 + 1) from if_neg w3] at e
              cases e
        · have e7 := f4 w2
          have nd2 : z_nd kd 28 (p + 1) = .inl (p + 1) := if_neg w2
          rw [nd2] at f2
          rw [pM_needS f2.1, x_c] at start
          refine ⟨s7, start, wrap _ start, ?_, ?_, ?_, ?_⟩
          · rw [e7, x_I_I, if_neg (fun q => by have := q.1; omega), x_I_I, if_neg (fun q => by have := q.1; omega)]; exact o5
          · rw [e7]; exact k5.1
          · rw [z_bd_r, nd2]
            exact f2
          · intro x q e
            rw [z_bd_r, nd2] at e
            cases e
      · have e5 := d4 w1
        have nd1 : z_nd kd 36 p = .inl p := if_neg w1
        rw [nd1] at d2
        rw [x_nn, pM_needS d2.1, x_c, x_c, pM_needS d2.1, x_c] at start
        rw [nd1]
        refine ⟨s5, start, wrap _ start, ?_, ?_, d2, fun x q e => by cases e⟩
        · rw [e5, x_I_I, if_neg (fun q => by have := q.1; omega), x_I_I, if_neg (fun q => by have := q.1; omega)]; exact c5
        · rw [e5]; exact c6
theorem z_op1_q (hend : ∀ p, p ≤ n → kd p ≠ 38 → p < n) {p q : Nat} (hp : p ≤ n) (h : z_op1 kd p = .inl q) : p ≤ q ∧ q ≤ n := by
  unfold z_op1 at h
  by_cases q10 : kd p = 10
  · rw [if_pos q10] at h; cases h
  · rw [if_neg q10] at h
    by_cases q37 : kd p = 37
    · rw [if_pos q37] at h; cases h
    · rw [if_neg q37] at h
      unfold z_nd at h
      by_cases w1 : kd p = 36
      · have h1 := hend p hp (by omega)
        rw [if_pos w1, z_bd_r] at h
        by_cases w2 : kd (p + 1) = 28
        · have h2 := hend (p + 1) (by omega) (by omega)
          rw [if_pos w2, z_bd_r] at h
          by_cases w3 : kd (p + 1 + 1) = 36
          · rw [if_pos w3] at h; cases h
          · rw [if_neg w3] at h; cases h; omega
        · rw [if_neg w2] at h; cases h; omega
      · rw [if_neg w1] at h; cases h; omega
end
