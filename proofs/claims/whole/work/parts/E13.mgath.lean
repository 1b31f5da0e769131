/-! RUNNING (reference): the rows of the sources are gathered -/
def M_pcv (w : g_St) (q : Nat) (X : r_Pt) : Prop := q < 4 ∧ X.1 ≤ 3 ∧ g_AI w 1300 q = Int32.ofNat X.1 ∧ (X.2.1 = none → g_AI w 1428 q = 0) ∧ (∀ b c, X.2.1 = some (b, c) → g_AI w 1428 q = (if b = true then 2 else 1) ∧ g_AI w 1748 q = Int32.ofNat c ∧ c < X.1) ∧ (X.2.2.1 = none → g_AI w 1620 q = -1) ∧ (∀ c, X.2.2.1 = some c → g_AI w 1620 q ≠ -1 ∧ g_AI w 1812 q = Int32.ofNat c ∧ c < X.1)
theorem M_pcv.mv {u w : g_St} (h : M_K u w) {q : Nat} {X : r_Pt} (p : M_pcv u q X) : M_pcv w q X := by
  unfold M_pcv at p ⊢
  rw [h.ai (a := 1300) (by decide), h.ai (a := 1428) (by decide), h.ai (a := 1748) (by decide), h.ai (a := 1620) (by decide), h.ai (a := 1812) (by decide)]
  exact p
def M_see (Xs : Nat → r_Pt) (P : M_Pl) (ow mask low high q i : Nat) : Bool := !mask.testBit q || (decide (low ≤ i) && decide (i < high) && !(decide (ow = q) && (Xs q).2.2.1.isSome && decide (r_hd ((P[i]?.map (·.2)).getD []) 3 = 1)))
section
variable {w : g_St} {np nt : Nat} {Xs : Nat → r_Pt} {tw : Nat → Nat} {tbl : Nat → List (Nat → Int64)} {P : M_Pl} {s ow mask low high : Nat}
theorem m_seen (S : M_st w np nt Xs tw tbl P) (hs : s < 17) (how : g_AI w 2004 s = Int32.ofNat ow) (ow4 : ow ≤ 4) (hm : mask < 16) (hl : low ≤ 48) (hh : high ≤ 48) {q : Nat} (hq : q < np) (hpc : M_pcv w q (Xs q)) {i : Nat} {r : r_Row} (hr : P[i]? = some (q, r)) : f_M_isSeen (some 1) (Int32.ofNat s) (Int32.ofNat q) (Int32.ofNat i) (Int32.ofNat mask) (Int32.ofNat low) (Int32.ofNat high) w = some (z_g (M_see Xs P ow mask low high q i), w) := by
  obtain ⟨F, -, ⟨P1, P2, P3⟩, np4, w3⟩ := S
  have f1 : g_R w 2241 1 = some 2004 ∧ g_ln w 2004 = 17 := F (2241, 2004, 17) (by decide)
  have f2 : g_R w 1601 1 = some 1620 ∧ g_ln w 1620 = 4 := F (1601, 1620, 4) (by decide)
  have f3 : g_R w 5057 1 = some 789 ∧ g_ln w 789 = 200 := F (5057, 789, 200) (by decide)
  have f4 : g_R w 1281 1 = some 1300 ∧ g_ln w 1300 = 4 := F (1281, 1300, 4) (by decide)
  have il : i < P.length := by
    by_cases g : i < P.length
    · exact g
    · rw [List.getElem?_eq_none (by omega)] at hr; cases hr
  obtain ⟨-, -, c1, c2, -⟩ := P3 i q r hr
  obtain ⟨p1, p2, p3, -, -, p6, p7⟩ := hpc
  have e56 : ∀ b : Bool, f_M_isSeen_56 (Int32.ofNat i) (Int32.ofNat low) (Int32.ofNat high) (z_g b) w = some (z_g (decide (low ≤ i) && decide (i < high) && !b), w) := fun b => by
    unfold f_M_isSeen_56
    by_cases a : low ≤ i
    · rw [if_neg (by rw [x_lt (by omega) (by omega)]; omega), decide_eq_true a]
      by_cases c : i < high
      · rw [if_neg (by rw [x_le (by omega) (by omega)]; omega), decide_eq_true c]
        cases b <;> rfl
      · rw [if_pos (by rw [x_le (by omega) (by omega)]; omega), decide_eq_false c]
        rfl
    · rw [if_pos (by rw [x_lt (by omega) (by omega)]; omega), decide_eq_false a]
      rfl
  unfold f_M_isSeen M_see
  rw [hr]
  show _ = some (z_g (!mask.testBit q || (decide (low ≤ i) && decide (i < high) && !(decide (ow = q) && (Xs q).2.2.1.isSome && decide (r_hd r 3 = 1)))), w)
  cases hb : mask.testBit q with
  | false =>
    rw [if_pos (by rw [z_bit0' hm (by omega)]; exact hb)]
    rfl
  | true =>
    rw [if_neg (by rw [z_bit0' hm (by omega), hb]; decide), x_gR, f1.1, x_aI (by omega) (by omega), how, Bool.not_true, Bool.false_or]
    by_cases eo : ow = q
    · rw [if_pos (by rw [eo]), x_gR, f2.1, x_aI (by omega) (by omega), decide_eq_true eo, Bool.true_and]
      cases hx : (Xs q).2.2.1 with
      | none =>
        rw [p6 hx, if_pos rfl]
        exact e56 false
      | some c =>
        obtain ⟨y1, -, -⟩ := p7 c hx
        rw [if_neg y1, x_gR, f3.1, x_gR, f4.1, x_aI (by omega) (by omega), p3, show (4 : Int32) = Int32.ofNat 4 from rfl, x_mul, x_add, x_aL (by omega) (by omega), c2 (by rw [hx]; rfl)]
        by_cases g : r_hd r 3 = 1
        · rw [if_pos g, decide_eq_true g]; exact e56 true
        · rw [if_neg g, decide_eq_false g]; exact e56 false
    · rw [if_neg (by rw [x_eq (by omega) (by omega)]; exact eo), decide_eq_false eo]
      exact e56 false
theorem z_gd_l {α : Type} {l m : List α} {d : α} {j : Nat} (h : j < l.length) : (l ++ m).getD j d = l.getD j d := by
  rw [List.getD_eq_getElem?_getD, List.getElem?_append_left h, ← List.getD_eq_getElem?_getD]
theorem z_gd_e {α : Type} {l : List α} {a d : α} : (l ++ [a]).getD l.length d = a := by
  rw [List.getD_eq_getElem?_getD, List.getElem?_append_right (Nat.le_refl _), Nat.sub_self]
  rfl
def M_sn (sn : Nat → Nat → Bool) : Nat ⊕ Nat → Nat → Bool
  | .inl q, i => sn q i
  | .inr _, _ => true
def M_in (P : M_Pl) (tbl : Nat → List (Nat → Int64)) (sn : Nat → Nat → Bool) (m : Nat ⊕ Nat) (i : Nat) : Bool := (M_at P tbl m i).isSome && M_sn sn m i
/-- the rows that are gathered: where they stand -/
def M_ix (P : M_Pl) (tbl : Nat → List (Nat → Int64)) (sn : Nat → Nat → Bool) (m : Nat ⊕ Nat) : List Nat := (List.range (M_nd P tbl m)).filter (M_in P tbl sn m)
/-- one source -/
theorem m_gath1 (S : M_st w np nt Xs tw tbl P) {m : Nat ⊕ Nat} (hm : M_ok np nt m) {sn : Nat → Nat → Bool} {x1 x2 x3 x4 : Int32} (hsn : ∀ w1, z_W [] [4564, 4628] w w1 → ∀ q i r, m = .inl q → P[i]? = some (q, r) → f_M_isSeen (some 1) x1 (Int32.ofNat q) (Int32.ofNat i) x2 x3 x4 w1 = some (z_g (sn q i), w1)) (K : Option Nat → Int32 → Int32 → Int32 → Int32 → Int32 → g_St → Option (Unit × g_St)) {k : Nat} (hk : k < 3) : ∀ (d i f : Nat) (w1 : g_St) (Cl : List Nat), i + d = M_nd P tbl m → d < f → z_W [] [4564, 4628] w w1 → Cl.length ≤ i → g_AI w1 4628 k = Int32.ofNat Cl.length → (∀ j, j < Cl.length → g_AI w1 4564 (64 * k + j) = Int32.ofNat (Cl.getD j 0)) → ∃ w', f_M_gather_64 K f (some 1) x1 x2 x3 x4 (Int32.ofNat k) (Int32.ofNat (M_mc m)) (Int32.ofNat (M_nd P tbl m)) (Int32.ofNat i) w1 = K (some 1) x1 x2 x3 x4 (Int32.ofNat k + 1) w' ∧ z_W [] [4564, 4628] w w' ∧ g_AI w' 4628 k = Int32.ofNat (Cl ++ ((List.range' i d).filter (M_in P tbl sn m)).map (M_xc m)).length ∧ (∀ j, j < (Cl ++ ((List.range' i d).filter (M_in P tbl sn m)).map (M_xc m)).length → g_AI w' 4564 (64 * k + j) = Int32.ofNat ((Cl ++ ((List.range' i d).filter (M_in P tbl sn m)).map (M_xc m)).getD j 0)) ∧ (∀ k', k' ≠ k → g_AI w' 4628 k' = g_AI w1 4628 k') ∧ ∀ j, ¬ (64 * k ≤ j ∧ j < 64 * k + 64) → g_AI w' 4564 j = g_AI w1 4564 j := by
  have el : M_mc m < 20 ∧ M_nd P tbl m ≤ 48 := by
    obtain ⟨-, ⟨T0, T⟩, ⟨P1, P2, P3⟩, np4, -⟩ := S
    cases m with
    | inl q => exact ⟨by have : q < np := hm; show 10 + q < 20; omega, P2⟩
    | inr t => exact ⟨by have : t < nt := hm; show t < 20; omega, by have := (T t hm).2.1; show (tbl t).length ≤ 48; omega⟩
  intro d
  induction d with
  | zero =>
    intro i f w1 Cl e1 e2 hw h1 h2 h3
    obtain ⟨f, rfl⟩ : ∃ m, f = m + 1 := ⟨f - 1, by omega⟩
    rw [f_M_gather_64, if_pos (by rw [x_le (by omega) (by omega)]; omega)]
    have e0 : Cl ++ ((List.range' i 0).filter (M_in P tbl sn m)).map (M_xc m) = Cl := List.append_nil _
    rw [e0]
    exact ⟨w1, rfl, hw, h2, h3, fun _ _ => rfl, fun _ _ => rfl⟩
  | succ d ih =>
    intro i f w1 Cl e1 e2 hw h1 h2 h3
    obtain ⟨f, rfl⟩ : ∃ m, f = m + 1 := ⟨f - 1, by omega⟩
    have F1 := hw.fx S.1
    have S1 : M_st w1 np nt Xs tw tbl P := S.mv hw (by decide) (by decide)
    have skip : M_in P tbl sn m i = false → ∃ w', f_M_gather_117 (f_M_gather_64 K f) (some 1) x1 x2 x3 x4 (Int32.ofNat k) (Int32.ofNat (M_mc m)) (Int32.ofNat (M_nd P tbl m)) (Int32.ofNat i) 0 w1 = K (some 1) x1 x2 x3 x4 (Int32.ofNat k + 1) w' ∧ z_W [] [4564, 4628] w w' ∧ g_AI w' 4628 k = Int32.ofNat (Cl ++ ((List.range' i (d + 1)).filter (M_in P tbl sn m)).map (M_xc m)).length ∧ (∀ j, j < (Cl ++ ((List.range' i (d + 1)).filter (M_in P tbl sn m)).map (M_xc m)).length → g_AI w' 4564 (64 * k + j) = Int32.ofNat ((Cl ++ ((List.range' i (d + 1)).filter (M_in P tbl sn m)).map (M_xc m)).getD j 0)) ∧ (∀ k', k' ≠ k → g_AI w' 4628 k' = g_AI w1 4628 k') ∧ ∀ j, ¬ (64 * k ≤ j ∧ j < 64 * k + 64) → g_AI w' 4564 j = g_AI w1 4564 j := by
      intro hin
      unfold f_M_gather_117
      rw [if_pos rfl, x_p1, List.range'_succ, List.filter_cons, hin, if_neg (by decide)]
      exact ih (i + 1) f w1 Cl (by omega) (by omega) hw (by omega) h2 h3
    have take : M_in P tbl sn m i = true → ∃ w', f_M_gather_117 (f_M_gather_64 K f) (some 1) x1 x2 x3 x4 (Int32.ofNat k) (Int32.ofNat (M_mc m)) (Int32.ofNat (M_nd P tbl m)) (Int32.ofNat i) 1 w1 = K (some 1) x1 x2 x3 x4 (Int32.ofNat k + 1) w' ∧ z_W [] [4564, 4628] w w' ∧ g_AI w' 4628 k = Int32.ofNat (Cl ++ ((List.range' i (d + 1)).filter (M_in P tbl sn m)).map (M_xc m)).length ∧ (∀ j, j < (Cl ++ ((List.range' i (d + 1)).filter (M_in P tbl sn m)).map (M_xc m)).length → g_AI w' 4564 (64 * k + j) = Int32.ofNat ((Cl ++ ((List.range' i (d + 1)).filter (M_in P tbl sn m)).map (M_xc m)).getD j 0)) ∧ (∀ k', k' ≠ k → g_AI w' 4628 k' = g_AI w1 4628 k') ∧ ∀ j, ¬ (64 * k ≤ j ∧ j < 64 * k + 64) → g_AI w' 4564 j = g_AI w1 4564 j := by
      intro hin
      have f1 : g_R w1 6081 1 = some 4564 ∧ g_ln w1 4564 = 192 := F1 (6081, 4564, 192) (by decide)
      have f2 : g_R w1 6145 1 = some 4628 ∧ g_ln w1 4628 = 3 := F1 (6145, 4628, 3) (by decide)
      have e117 : f_M_gather_117 (f_M_gather_64 K f) (some 1) x1 x2 x3 x4 (Int32.ofNat k) (Int32.ofNat (M_mc m)) (Int32.ofNat (M_nd P tbl m)) (Int32.ofNat i) 1 w1 = f_M_gather_64 K f (some 1) x1 x2 x3 x4 (Int32.ofNat k) (Int32.ofNat (M_mc m)) (Int32.ofNat (M_nd P tbl m)) (Int32.ofNat (i + 1)) (g_setAI (g_setAI w1 4564 (64 * k + Cl.length) (Int32.ofNat (M_xc m i))) 4628 k (Int32.ofNat (Cl.length + 1))) := by
        have gen : ∀ x, g_sI w1 (some 4564) (Int32.ofNat (64 * k + Cl.length)) x (fun s4 => g_gR s4 6145 (some 1) fun p5 => g_aI s4 p5 (Int32.ofNat k) fun i6 => g_sI s4 p5 (Int32.ofNat k) (i6 + 1) fun s7 => f_M_gather_64 K f (some 1) x1 x2 x3 x4 (Int32.ofNat k) (Int32.ofNat (M_mc m)) (Int32.ofNat (M_nd P tbl m)) (Int32.ofNat i + 1) s7) = f_M_gather_64 K f (some 1) x1 x2 x3 x4 (Int32.ofNat k) (Int32.ofNat (M_mc m)) (Int32.ofNat (M_nd P tbl m)) (Int32.ofNat (i + 1)) (g_setAI (g_setAI w1 4564 (64 * k + Cl.length) x) 4628 k (Int32.ofNat (Cl.length + 1))) := by
          intro x
          rw [x_sI (by omega) (by omega), x_gR, show g_R (g_setAI w1 4564 (64 * k + Cl.length) x) 6145 1 = some 4628 from f2.1, x_aI (by omega) (by show k < g_ln w1 4628; omega), show g_AI (g_setAI w1 4564 (64 * k + Cl.length) x) 4628 k = Int32.ofNat Cl.length from by rw [x_AI_AI, if_neg (fun q => absurd q.1 (by decide))]; exact h2, x_sI (by omega) (by show k < g_ln w1 4628; omega), x_p1, x_p1]
        unfold f_M_gather_117
        rw [if_neg (by decide), x_gR, f1.1, x_gR, f2.1, x_aI (by omega) (by omega), h2, show (64 : Int32) = Int32.ofNat 64 from rfl, x_mul, x_add]
        cases m with
        | inl q =>
          have m1 : 10 + q < 20 := el.1
          rw [if_pos (by show (10 : Int32) ≤ Int32.ofNat (10 + q); rw [show (10 : Int32) = Int32.ofNat 10 from rfl, x_le (by omega) (by omega)]; omega), show (100 : Int32) = Int32.ofNat 100 from rfl, x_add]
          exact gen _
        | inr t =>
          have ht : t < nt := hm
          have nt5 := S.2.1.1
          rw [if_neg (by show ¬ (10 : Int32) ≤ Int32.ofNat t; rw [show (10 : Int32) = Int32.ofNat 10 from rfl, x_le (by omega) (by omega)]; omega), show (16 : Int32) = Int32.ofNat 16 from rfl, show (Int32.ofNat (M_mc (.inr t))) = Int32.ofNat t from rfl, x_mul, x_add]
          exact gen _
      have gA : ∀ j, g_AI (g_setAI (g_setAI w1 4564 (64 * k + Cl.length) (Int32.ofNat (M_xc m i))) 4628 k (Int32.ofNat (Cl.length + 1))) 4564 j = if j = 64 * k + Cl.length then Int32.ofNat (M_xc m i) else g_AI w1 4564 j := fun j => by
        rw [x_AI_AI, if_neg (fun q => absurd q.1 (by decide)), x_AI_AI]
        by_cases e : j = 64 * k + Cl.length
        · rw [if_pos ⟨rfl, e⟩, if_pos e]
        · rw [if_neg (fun q => e q.2), if_neg e]
      have gB : ∀ j, g_AI (g_setAI (g_setAI w1 4564 (64 * k + Cl.length) (Int32.ofNat (M_xc m i))) 4628 k (Int32.ofNat (Cl.length + 1))) 4628 j = if j = k then Int32.ofNat (Cl.length + 1) else g_AI w1 4628 j := fun j => by
        rw [x_AI_AI]
        by_cases e : j = k
        · rw [if_pos ⟨rfl, e⟩, if_pos e]
        · rw [if_neg (fun q => e q.2), if_neg e, x_AI_AI, if_neg (fun q => absurd q.1 (by decide))]
      have W2 : z_W [] [4564, 4628] w (g_setAI (g_setAI w1 4564 (64 * k + Cl.length) (Int32.ofNat (M_xc m i))) 4628 k (Int32.ofNat (Cl.length + 1))) := (hw.sI (by decide) _ _).sI (by decide) _ _
      rw [e117, List.range'_succ, List.filter_cons, hin, if_pos rfl, List.map_cons, List.append_cons]
      generalize g_setAI (g_setAI w1 4564 (64 * k + Cl.length) (Int32.ofNat (M_xc m i))) 4628 k (Int32.ofNat (Cl.length + 1)) = w2 at gA gB W2 ⊢
      obtain ⟨w', r1, r2, r3, r4, r5, r6⟩ := ih (i + 1) f w2 (Cl ++ [M_xc m i]) (by omega) (by omega) W2 (by rw [List.length_append]; show _ + 1 ≤ _; omega) (by rw [gB, if_pos rfl, List.length_append]; rfl) (fun j hj => by
        rw [List.length_append] at hj
        have hj' : j < Cl.length + 1 := hj
        rw [gA]
        by_cases e : j = Cl.length
        · rw [if_pos (by omega), e, z_gd_e]
        · rw [if_neg (by omega), z_gd_l (by omega)]
          exact h3 j (by omega))
      refine ⟨w', r1, r2, r3, r4, fun k' hk' => ?_, fun j hj => ?_⟩
      · rw [r5 k' hk', gB, if_neg hk']
      · rw [r6 j hj, gA, if_neg (by omega)]
    rw [f_M_gather_64, if_neg (by rw [x_le (by omega) (by omega)]; omega)]
    cases m with
    | inl q =>
      have m1 : 10 + q < 20 := el.1
      have hq : q < np := hm
      have np4 := S.2.2.2.1
      have il : i < P.length := by have : i + (d + 1) = P.length := e1; omega
      obtain ⟨x, hx⟩ : ∃ x, P[i]? = some x := ⟨_, List.getElem?_eq_getElem il⟩
      obtain ⟨q', r'⟩ := x
      obtain ⟨p1, p2, -⟩ := S1.2.2.1.2.2 i q' r' hx
      have P2 := S.2.2.1.2.1
      have g4 : g_R w1 4993 1 = some 4116 ∧ g_ln w1 4116 = 50 := F1 (4993, 4116, 50) (by decide)
      have hat : M_at P tbl (.inl q) i = if q' = q then some r' else none := by
        show (P[i]?.bind fun x => if x.1 = q then some x.2 else none) = _
        rw [hx]
        rfl
      rw [if_neg (by show ¬ Int32.ofNat (10 + q) < (10 : Int32); rw [show (10 : Int32) = Int32.ofNat 10 from rfl, x_lt (by omega) (by omega)]; omega), x_gR, g4.1, x_aI (by omega) (by omega), p2]
      have e10 : Int32.ofNat (M_mc (.inl q)) - 10 = Int32.ofNat q := by
        show Int32.ofNat (10 + q) - 10 = _
        rw [show (10 : Int32) = Int32.ofNat 10 from rfl, x_sub (by omega), show 10 + q - 10 = q by omega]
      rw [e10]
      by_cases e : q' = q
      · rw [if_pos (by rw [e]), x_nn, hsn w1 hw q i r' rfl (by rw [hx, e]), x_c]
        rw [if_pos e] at hat
        have hin : M_in P tbl sn (.inl q) i = sn q i := by
          unfold M_in
          rw [hat]
          exact Bool.true_and _
        cases hb : sn q i with
        | false =>
          rw [if_pos (show z_g false = 0 from rfl)]
          exact skip (by rw [hin, hb])
        | true =>
          rw [if_neg (show ¬ z_g true = 0 from by decide)]
          exact take (by rw [hin, hb])
      · rw [if_neg (by rw [x_eq (by omega) (by omega)]; exact e)]
        rw [if_neg e] at hat
        refine skip ?_
        unfold M_in
        rw [hat]
        rfl
    | inr t =>
      have ht : t < nt := hm
      have nt5 := S.2.1.1
      have il : i < (tbl t).length := by have : i + (d + 1) = (tbl t).length := e1; omega
      rw [if_pos (by show Int32.ofNat t < (10 : Int32); rw [show (10 : Int32) = Int32.ofNat 10 from rfl, x_lt (by omega) (by omega)]; omega)]
      refine take ?_
      unfold M_in
      show ((tbl t)[i]?.map (fun c => ([c] : r_Row))).isSome && true = true
      rw [List.getElem?_eq_getElem il]
      rfl
/-- all sources -/
theorem m_gath (S : M_st w np nt Xs tw tbl P) (hs : s < 17) {ms : List (Nat ⊕ Nat)} (hn : ms.length ≤ 3) (hc : g_AI w 2324 s = Int32.ofNat ms.length) {b : Nat} (hb : g_AI w 2260 s = Int32.ofNat b) (hb2 : b + ms.length ≤ 100) (hms : ∀ k, k < ms.length → M_ok np nt (r_ml ms k) ∧ g_AI w 3220 (b + k) = Int32.ofNat (M_mc (r_ml ms k))) {sn : Nat → Nat → Bool} {x2 x3 x4 : Int32} (hsn : ∀ w1, z_W [] [4564, 4628] w w1 → ∀ q i r, q < np → P[i]? = some (q, r) → f_M_isSeen (some 1) (Int32.ofNat s) (Int32.ofNat q) (Int32.ofNat i) x2 x3 x4 w1 = some (z_g (sn q i), w1)) : ∃ w', f_M_gather (some 1) (Int32.ofNat s) x2 x3 x4 w = some ((), w') ∧ z_W [] [4564, 4628] w w' ∧ M_cand w' ms.length (fun k => (M_ix P tbl sn (r_ml ms k)).map (M_xc (r_ml ms k))) := by
  have elen : ∀ k, k < ms.length → M_mc (r_ml ms k) < 20 ∧ M_nd P tbl (r_ml ms k) ≤ 48 := fun k hk => by
    obtain ⟨-, ⟨T0, T⟩, ⟨P1, P2, P3⟩, np4, -⟩ := S
    obtain ⟨hm, -⟩ := hms k hk
    cases hz : r_ml ms k with
    | inl q => rw [hz] at hm; exact ⟨by have : q < np := hm; show 10 + q < 20; omega, P2⟩
    | inr t => rw [hz] at hm; exact ⟨by have : t < nt := hm; show t < 20; omega, by have := (T t hm).2.1; show (tbl t).length ≤ 48; omega⟩
  have key : ∀ (d k f : Nat) (w1 : g_St), k + d = ms.length → d < f → z_W [] [4564, 4628] w w1 → M_cand w1 k (fun k => (M_ix P tbl sn (r_ml ms k)).map (M_xc (r_ml ms k))) → ∃ w', f_M_gather_3 f (some 1) (Int32.ofNat s) x2 x3 x4 (Int32.ofNat k) w1 = some ((), w') ∧ z_W [] [4564, 4628] w w' ∧ M_cand w' ms.length (fun k => (M_ix P tbl sn (r_ml ms k)).map (M_xc (r_ml ms k))) := by
    intro d
    induction d with
    | zero =>
      intro k f w1 e1 e2 hw hC
      obtain ⟨f, rfl⟩ : ∃ m, f = m + 1 := ⟨f - 1, by omega⟩
      have F1 := hw.fx S.1
      have f1 : g_R w1 2561 1 = some 2324 ∧ g_ln w1 2324 = 17 := F1 (2561, 2324, 17) (by decide)
      rw [f_M_gather_3, x_gR, f1.1, x_aI (by omega) (by omega), hw.ai (a := 2324) (by decide), hc, if_pos (by rw [x_le (by omega) (by omega)]; omega)]
      exact ⟨w1, rfl, hw, fun j hj => hC j (by omega)⟩
    | succ d ih =>
      intro k f w1 e1 e2 hw hC
      obtain ⟨f, rfl⟩ : ∃ m, f = m + 1 := ⟨f - 1, by omega⟩
      have hk : k < ms.length := by omega
      have F1 := hw.fx S.1
      have f1 : g_R w1 2561 1 = some 2324 ∧ g_ln w1 2324 = 17 := F1 (2561, 2324, 17) (by decide)
      have f2 : g_R w1 3777 1 = some 3220 ∧ g_ln w1 3220 = 100 := F1 (3777, 3220, 100) (by decide)
      have f3 : g_R w1 2497 1 = some 2260 ∧ g_ln w1 2260 = 17 := F1 (2497, 2260, 17) (by decide)
      have f4 : g_R w1 6145 1 = some 4628 ∧ g_ln w1 4628 = 3 := F1 (6145, 4628, 3) (by decide)
      obtain ⟨hm, hmc⟩ := hms k hk
      obtain ⟨m20, m48⟩ := elen k hk
      have W2 : z_W [] [4564, 4628] w (g_setAI w1 4628 k 0) := hw.sI (by decide) _ _
      have A2 : ∀ j, g_AI (g_setAI w1 4628 k 0) 4628 j = if j = k then 0 else g_AI w1 4628 j := fun j => by
        rw [x_AI_AI]
        by_cases e : j = k
        · rw [if_pos ⟨rfl, e⟩, if_pos e]
        · rw [if_neg (fun q => e q.2), if_neg e]
      have B2 : ∀ j, g_AI (g_setAI w1 4628 k 0) 4564 j = g_AI w1 4564 j := fun j => by
        rw [x_AI_AI, if_neg (fun q => absurd q.1 (by decide))]
      rw [f_M_gather_3, x_gR, f1.1, x_aI (by omega) (by omega), hw.ai (a := 2324) (by decide), hc, if_neg (by rw [x_le (by omega) (by omega)]; omega), x_gR, f2.1, x_gR, f3.1, x_aI (by omega) (by omega), hw.ai (a := 2260) (by decide), hb, x_add, x_aI (by omega) (by omega), hw.ai (a := 3220) (by decide), hmc, x_gR, f4.1, x_sI (by omega) (by omega)]
      generalize g_setAI w1 4628 k 0 = w2 at W2 A2 B2 ⊢
      have F2 := W2.fx S.1
      have S2 : M_st w2 np nt Xs tw tbl P := S.mv W2 (by decide) (by decide)
      obtain ⟨w3, r1, r2, r3, r4, r5, r6⟩ := m_gath1 S hm (sn := sn) (x1 := Int32.ofNat s) (x2 := x2) (x3 := x3) (x4 := x4) (fun w1 hw1 q i r hq hr => hsn w1 hw1 q i r (by rw [hq] at hm; exact hm) hr) (f_M_gather_3 f) (show k < 3 by omega) (M_nd P tbl (r_ml ms k)) 0 200000 w2 [] (by omega) (by omega) W2 (Nat.zero_le _) (by rw [A2, if_pos rfl]; rfl) (fun j hj => by cases hj)
      have go : ∃ w', f_M_gather_64 (f_M_gather_3 f) 200000 (some 1) (Int32.ofNat s) x2 x3 x4 (Int32.ofNat k) (Int32.ofNat (M_mc (r_ml ms k))) (Int32.ofNat (M_nd P tbl (r_ml ms k))) 0 w2 = some ((), w') ∧ z_W [] [4564, 4628] w w' ∧ M_cand w' ms.length (fun k => (M_ix P tbl sn (r_ml ms k)).map (M_xc (r_ml ms k))) := by
        rw [show (0 : Int32) = Int32.ofNat 0 from rfl, r1, x_p1]
        refine ih (k + 1) f w3 (by omega) (by omega) r2 (fun j hj => ?_)
        have lix : ∀ m, (M_ix P tbl sn m).length ≤ M_nd P tbl m := fun m => Nat.le_trans (List.length_filter_le _ _) (by rw [List.length_range]; exact Nat.le_refl _)
        by_cases g : j = k
        · rw [g]
          rw [List.nil_append, ← List.range_eq_range'] at r3 r4
          refine ⟨r3, ?_, r4⟩
          show ((M_ix P tbl sn (r_ml ms k)).map (M_xc (r_ml ms k))).length ≤ 48
          rw [List.length_map]
          have := lix (r_ml ms k)
          omega
        · obtain ⟨c1, c2, c3⟩ := hC j (by omega)
          refine ⟨?_, c2, fun i hi => ?_⟩
          · rw [r5 j g, A2, if_neg g]; exact c1
          · rw [r6 _ (by omega), B2]; exact c3 i hi
      cases hz : r_ml ms k with
      | inl q =>
        rw [hz] at go m20
        have m1 : 10 + q < 20 := m20
        rw [if_pos (by show (10 : Int32) ≤ Int32.ofNat (10 + q); rw [show (10 : Int32) = Int32.ofNat 10 from rfl, x_le (by omega) (by omega)]; omega), x_gI, S2.2.2.1.1]
        exact go
      | inr t =>
        rw [hz] at go hm
        have ht : t < nt := hm
        have nt5 := S.2.1.1
        have f5 : g_R w2 193 1 = some 980 ∧ g_ln w2 980 = 5 := F2 (193, 980, 5) (by decide)
        rw [if_neg (by show ¬ (10 : Int32) ≤ Int32.ofNat t; rw [show (10 : Int32) = Int32.ofNat 10 from rfl, x_le (by omega) (by omega)]; omega), x_gR, f5.1, show (Int32.ofNat (M_mc (.inr t))) = Int32.ofNat t from rfl, x_aI (by omega) (by omega), (S2.2.1.2 t ht).1]
        exact go
  unfold f_M_gather
  exact key ms.length 0 200000 w (by omega) (by omega) z_W.re (fun j hj => by omega)
end
