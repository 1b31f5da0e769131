/-! RUNNING (reference): equal rows, against the engine's test -/
/-- a row's mark follows from its trail -/
def r_okr (X : r_Pt) (r : r_Row) : Prop := X.2.2.1.isSome = true → r_hd r 3 = r_mk X (r_hd r) r.tail
theorem r_mk_cg {X : r_Pt} {a b : r_Row} (hl : a.length = b.length) (h1 : 1 ≤ a.length) {c : Nat} (hX : X.2.2.1 = some c) (h : ∀ k, k < a.length → a.getD k r_c0 c = b.getD k r_c0 c) : r_mk X (r_hd a) a.tail = r_mk X (r_hd b) b.tail := by
  cases a with
  | nil => exact absurd h1 (by decide)
  | cons x s =>
    cases b with
    | nil => cases hl
    | cons y t =>
      have e0 : x c = y c := h 0 (Nat.zero_lt_succ _)
      have hl' : s.length = t.length := Nat.succ.inj hl
      have es : s.map (fun f => f c) = t.map (fun f => f c) := by
        refine List.ext_getElem (by rw [List.length_map, List.length_map, hl']) (fun i h1 h2 => ?_)
        rw [List.length_map] at h1 h2
        rw [List.getElem_map, List.getElem_map]
        have e := h (i + 1) (by show i + 1 < s.length + 1; omega)
        rw [List.getD_cons_succ, List.getD_cons_succ, List.getD_eq_getElem?_getD, List.getElem?_eq_getElem h1, List.getD_eq_getElem?_getD, List.getElem?_eq_getElem h2] at e
        exact e
      have ea : ∀ (l : r_Row) (v : Int64), (l.any fun a => decide (a c = v)) = (l.map (fun f => f c)).any fun z => decide (z = v) := fun l v => by
        rw [List.any_map]; rfl
      unfold r_mk
      rw [hX]
      show (if (!decide (x c = r_N) && s.any fun a => decide (a c = x c)) = true then (1 : Int64) else 0) = if (!decide (y c = r_N) && t.any fun a => decide (a c = y c)) = true then 1 else 0
      rw [ea, ea, es, e0]
theorem r_eqc_iff {d o : Nat} : ∀ {a b : r_Row}, a.length = b.length → (r_eqc d o a b = true ↔ ∀ k, k < a.length → a.getD k r_c0 d = b.getD k r_c0 d ∧ a.getD k r_c0 o = b.getD k r_c0 o) := by
  intro a
  induction a with
  | nil =>
    intro b hb
    cases b with
    | nil => exact ⟨fun _ k hk => (by cases hk), fun _ => rfl⟩
    | cons => cases hb
  | cons x s ih =>
    intro b hb
    cases b with
    | nil => cases hb
    | cons y t =>
      have hl : s.length = t.length := Nat.succ.inj hb
      show (if x d = y d then (if x o = y o then r_eqc d o s t else false) else false) = true ↔ _
      constructor
      · intro h k hk
        by_cases e1 : x d = y d
        · rw [if_pos e1] at h
          by_cases e2 : x o = y o
          · rw [if_pos e2] at h
            cases k with
            | zero => exact ⟨e1, e2⟩
            | succ k =>
              rw [List.getD_cons_succ, List.getD_cons_succ]
              exact (ih hl).mp h k (Nat.lt_of_succ_lt_succ hk)
          · rw [if_neg e2] at h; cases h
        · rw [if_neg e1] at h; cases h
      · intro h
        obtain ⟨e1, e2⟩ := h 0 (Nat.zero_lt_succ _)
        have e1' : x d = y d := e1
        have e2' : x o = y o := e2
        rw [if_pos e1', if_pos e2']
        refine (ih hl).mpr (fun k hk => ?_)
        have := h (k + 1) (Nat.succ_lt_succ hk)
        rw [List.getD_cons_succ, List.getD_cons_succ] at this
        exact this
theorem r_hd_getD (a : r_Row) (h : 1 ≤ a.length) : a.getD 0 r_c0 = r_hd a := by
  cases a with
  | nil => exact absurd h (by decide)
  | cons => rfl
section
variable {w : g_St}
theorem m_alike (F : m_Fix w) {p n i : Nat} {X : r_Pt} (hpc : M_pcv w p X) (hn : g_I w 4929 1 = Int32.ofNat n) (n48 : n ≤ 48) (hi : i ≤ 48) {r b : r_Row} (hr : M_row w X i r) (hb : M_row w X n b) (or : r_okr X r) (ob : r_okr X b) : f_M_isAlike (some 1) (Int32.ofNat p) (Int32.ofNat i) w = some (z_g (r_same X r b), w) := by
  obtain ⟨p1, p2, p3, p4, p5, p6, p7⟩ := hpc
  obtain ⟨r1, r2, r3, r4, r5, r6, r7⟩ := hr
  obtain ⟨b1, b2, b3, b4, b5, b6, b7⟩ := hb
  have f1 : g_R w 1281 1 = some 1300 ∧ g_ln w 1300 = 4 := F (1281, 1300, 4) (by decide)
  have f2 : g_R w 1601 1 = some 1620 ∧ g_ln w 1620 = 4 := F (1601, 1620, 4) (by decide)
  have f3 : g_R w 5121 1 = some 4180 ∧ g_ln w 4180 = 50 := F (5121, 4180, 50) (by decide)
  have f4 : g_R w 5249 1 = some 4244 ∧ g_ln w 4244 = 50 := F (5249, 4244, 50) (by decide)
  -- the lengths
  obtain ⟨ls, ls', hls, hls', hs30, hs30', hsl⟩ : ∃ ls ls', g_AI w 4180 n = Int32.ofNat ls ∧ g_AI w 4180 i = Int32.ofNat ls' ∧ ls ≤ 30 ∧ ls' ≤ 30 ∧ ((X.2.1 = none ∧ ls = 0 ∧ ls' = 0) ∨ (X.2.1.isSome = true ∧ ls = b.length ∧ ls' = r.length)) := by
    cases hX : X.2.1 with
    | none => exact ⟨0, 0, b4 hX, r4 hX, by decide, by decide, Or.inl ⟨rfl, rfl, rfl⟩⟩
    | some bc => exact ⟨b.length, r.length, (b5 bc.1 bc.2 hX).1, (r5 bc.1 bc.2 hX).1, b3.2, r3.2, Or.inr ⟨rfl, rfl, rfl⟩⟩
  obtain ⟨lc, lc', hlc, hlc', hc30, hc30', hcl⟩ : ∃ ls ls', g_AI w 4244 n = Int32.ofNat ls ∧ g_AI w 4244 i = Int32.ofNat ls' ∧ ls ≤ 30 ∧ ls' ≤ 30 ∧ ((X.2.2.1 = none ∧ ls = 0 ∧ ls' = 0) ∨ (X.2.2.1.isSome = true ∧ ls = b.length ∧ ls' = r.length)) := by
    cases hX : X.2.2.1 with
    | none => exact ⟨0, 0, b6 hX, r6 hX, by decide, by decide, Or.inl ⟨rfl, rfl, rfl⟩⟩
    | some c => exact ⟨b.length, r.length, (b7 c hX).1, (r7 c hX).1, b3.2, r3.2, Or.inr ⟨rfl, rfl, rfl⟩⟩
  obtain ⟨N, hN, hN2⟩ : ∃ N, N = X.1 + (if X.2.2.1.isSome = true then 1 else 0) ∧ N ≤ 4 := ⟨_, rfl, by split <;> omega⟩
  obtain ⟨fr, hfr, hf2⟩ : ∃ fr, fr ≤ ls ∧ ((g_AI w 1428 p = 2 ∧ 1 ≤ ls ∧ fr = ls - 1) ∨ (g_AI w 1428 p ≠ 2 ∧ fr = 0)) := by
    cases hX : X.2.1 with
    | none => exact ⟨0, Nat.zero_le _, Or.inr ⟨by rw [p4 hX]; decide, rfl⟩⟩
    | some bc =>
      have hl : ls = b.length := by
        rcases hsl with q | q
        · rw [hX] at q; cases q.1
        · exact q.2.1
      have := (p5 bc.1 bc.2 hX).1
      cases hb1 : bc.1 with
      | true => exact ⟨ls - 1, by omega, Or.inl ⟨by rw [this, hb1]; rfl, by omega, rfl⟩⟩
      | false => exact ⟨0, Nat.zero_le _, Or.inr ⟨by rw [this, hb1]; decide, rfl⟩⟩
  have e69 := fun b => m_al69 F p1 hn n48 hi hN2 hlc hc30 hls hs30 hfr hf2 b
  -- what is computed
  have e21 : ∀ x0 x1 : Int32, x0 + x1 = Int32.ofNat N → f_M_isAlike_21 (some 1) (Int32.ofNat p) (Int32.ofNat i) x0 x1 w = some (z_g ((((decide (ls' = ls) && decide (lc' = lc)) && (List.range N).all fun k => decide (g_AL w 789 (4 * i + k) = g_AL w 789 (4 * n + k))) && (List.range' fr (ls - fr)).all fun k => decide (g_AL w 853 (32 * i + k) = g_AL w 853 (32 * n + k))) && (List.range lc).all fun k => decide (g_AL w 917 (32 * i + k) = g_AL w 917 (32 * n + k))), w) := fun x0 x1 hx => by
    unfold f_M_isAlike_21
    rw [x_gR, f3.1, x_aI (by omega) (by omega), hls', x_gR, f3.1, x_gI, hn, x_aI (by omega) (by omega), hls, hx]
    by_cases e1 : ls' = ls
    · rw [if_pos (by rw [e1]), x_gR, f4.1, x_aI (by omega) (by omega), hlc', x_gR, f4.1, x_gI, hn, x_aI (by omega) (by omega), hlc, decide_eq_true e1, Bool.true_and]
      by_cases e2 : lc' = lc
      · rw [if_pos (by rw [e2]), decide_eq_true e2]
        exact e69 true
      · rw [if_neg (by rw [x_eq (by omega) (by omega)]; exact e2), decide_eq_false e2]
        exact e69 false
    · rw [if_neg (by rw [x_eq (by omega) (by omega)]; exact e1), decide_eq_false e1, Bool.false_and]
      exact e69 false
  have er : ((((decide (ls' = ls) && decide (lc' = lc)) && (List.range N).all fun k => decide (g_AL w 789 (4 * i + k) = g_AL w 789 (4 * n + k))) && (List.range' fr (ls - fr)).all fun k => decide (g_AL w 853 (32 * i + k) = g_AL w 853 (32 * n + k))) && (List.range lc).all fun k => decide (g_AL w 917 (32 * i + k) = g_AL w 917 (32 * n + k))) = r_same X r b := by
    rw [Bool.eq_iff_iff, Bool.and_eq_true, Bool.and_eq_true, Bool.and_eq_true, Bool.and_eq_true, List.all_eq_true, List.all_eq_true, List.all_eq_true, decide_eq_true_iff, decide_eq_true_iff]
    unfold r_same r_eqw r_st
    rw [Bool.and_eq_true, List.all_eq_true]
    constructor
    · rintro ⟨⟨⟨⟨h1, h2⟩, h3⟩, h4⟩, h5⟩
      refine ⟨fun j hj => ?_, ?_⟩
      · have hj' := List.mem_range.mp hj
        have := of_decide_eq_true (h3 j (List.mem_range.mpr (by omega)))
        rw [r1 j hj', b1 j hj'] at this
        exact decide_eq_true this
      · by_cases t : r_tr X = true
        · have len : r.length = b.length := by
            rcases hsl with ⟨q1, -, -⟩ | ⟨-, q2, q3⟩
            · rcases hcl with ⟨q4, -, -⟩ | ⟨-, q5, q6⟩
              · unfold r_tr at t
                rw [q1, q4] at t
                cases t
              · omega
            · omega
          rw [t, Bool.not_true, Bool.false_or, Bool.and_eq_true]
          refine ⟨decide_eq_true len, ?_⟩
          have cyc : ∀ c, X.2.2.1 = some c → ∀ k, k < r.length → r.getD k r_c0 c = b.getD k r_c0 c := fun c hc k hk => by
            have l2 : lc = b.length := by
              rcases hcl with q | q
              · rw [hc] at q; cases q.1
              · exact q.2.1
            have := of_decide_eq_true (h5 (r.length - 1 - k) (List.mem_range.mpr (by omega)))
            rw [(r7 c hc).2 _ (by omega), (b7 c hc).2 _ (by omega), show r.length - 1 - (r.length - 1 - k) = k by omega, show b.length - 1 - (r.length - 1 - k) = k by omega] at this
            exact this
          unfold r_dp
          cases hX : X.2.1 with
          | none =>
            show (match X.2.2.1 with | none => true | some d => r_eqc d (X.2.2.1.getD d) r b) = true
            cases hc : X.2.2.1 with
            | none => rfl
            | some c =>
              show r_eqc c c r b = true
              rw [r_eqc_iff len]
              exact fun k hk => ⟨cyc c hc k hk, cyc c hc k hk⟩
          | some bc =>
            obtain ⟨bb, c⟩ := bc
            cases bb with
            | true =>
              show (match X.2.2.1 with | none => true | some d => r_eqc d (X.2.2.1.getD d) r b) = true
              cases hc : X.2.2.1 with
              | none => rfl
              | some c =>
                show r_eqc c c r b = true
                rw [r_eqc_iff len]
                exact fun k hk => ⟨cyc c hc k hk, cyc c hc k hk⟩
            | false =>
              show r_eqc c (X.2.2.1.getD c) r b = true
              have l2 : ls = b.length := by
                rcases hsl with q | q
                · rw [hX] at q; cases q.1
                · exact q.2.1
              have f0 : fr = 0 := by
                rcases hf2 with q | q
                · rw [(p5 false c hX).1] at q; exact absurd q.1 (by decide)
                · exact q.2
              have sea : ∀ k, k < r.length → r.getD k r_c0 c = b.getD k r_c0 c := fun k hk => by
                have := of_decide_eq_true (h4 (r.length - 1 - k) (by rw [List.mem_range'_1]; omega))
                rw [(r5 false c hX).2 _ (by omega), (b5 false c hX).2 _ (by omega), show r.length - 1 - (r.length - 1 - k) = k by omega, show b.length - 1 - (r.length - 1 - k) = k by omega] at this
                exact this
              rw [r_eqc_iff len]
              intro k hk
              refine ⟨sea k hk, ?_⟩
              cases hc : X.2.2.1 with
              | none => exact sea k hk
              | some c2 => exact cyc c2 hc k hk
        · rw [Bool.not_eq_true] at t
          rw [t]
          rfl
    · rintro ⟨h1, h2⟩
      have own : ∀ j, j < X.1 → r_hd r j = r_hd b j := fun j hj => of_decide_eq_true (h1 j (List.mem_range.mpr hj))
      by_cases t : r_tr X = true
      · rw [t, Bool.not_true, Bool.false_or, Bool.and_eq_true] at h2
        obtain ⟨h3, h4⟩ := h2
        have len : r.length = b.length := of_decide_eq_true h3
        have cyc : ∀ c, X.2.2.1 = some c → ∀ k, k < r.length → r.getD k r_c0 c = b.getD k r_c0 c := fun c hc k hk => by
          unfold r_dp at h4
          cases hX : X.2.1 with
          | none =>
            rw [hX] at h4
            have h5 : (match X.2.2.1 with | none => true | some d => r_eqc d (X.2.2.1.getD d) r b) = true := h4
            rw [hc] at h5
            have h6 : r_eqc c c r b = true := h5
            rw [r_eqc_iff len] at h6
            exact (h6 k hk).1
          | some bc =>
            obtain ⟨bb, c'⟩ := bc
            rw [hX] at h4
            cases bb with
            | true =>
              have h5 : (match X.2.2.1 with | none => true | some d => r_eqc d (X.2.2.1.getD d) r b) = true := h4
              rw [hc] at h5
              have h6 : r_eqc c c r b = true := h5
              rw [r_eqc_iff len] at h6
              exact (h6 k hk).1
            | false =>
              have h5 : r_eqc c' (X.2.2.1.getD c') r b = true := h4
              rw [hc, r_eqc_iff len] at h5
              exact (h5 k hk).2
        have mark : X.2.2.1.isSome = true → r_hd r 3 = r_hd b 3 := fun q => by
          cases hc : X.2.2.1 with
          | none => rw [hc] at q; cases q
          | some c => rw [or q, ob q]; exact r_mk_cg len r3.1 hc (cyc c hc)
        refine ⟨⟨⟨⟨?_, ?_⟩, fun k hk => ?_⟩, fun k hk => ?_⟩, fun k hk => ?_⟩
        · rcases hsl with q | q <;> omega
        · rcases hcl with q | q <;> omega
        · have hk' := List.mem_range.mp hk
          refine decide_eq_true ?_
          by_cases e : k < X.1
          · rw [r1 k e, b1 k e]; exact own k e
          · have cs : X.2.2.1.isSome = true := by
              by_cases q : X.2.2.1.isSome = true
              · exact q
              · rw [if_neg q] at hN; omega
            rw [if_pos cs] at hN
            have ek : k = X.1 := by omega
            rw [ek, r2 cs, b2 cs]
            exact mark cs
        · rw [List.mem_range'_1] at hk
          refine decide_eq_true ?_
          cases hX : X.2.1 with
          | none =>
            rcases hsl with q | q
            · omega
            · rw [hX] at q; cases q.1
          | some bc =>
            obtain ⟨bb, c⟩ := bc
            have l2 : ls = b.length := by
              rcases hsl with q | q
              · rw [hX] at q; cases q.1
              · exact q.2.1
            rw [(r5 bb c hX).2 k (by omega), (b5 bb c hX).2 k (by omega), len]
            cases bb with
            | true =>
              have : fr = ls - 1 := by
                rcases hf2 with q | q
                · exact q.2.2
                · rw [(p5 true c hX).1] at q; exact absurd rfl q.1
              rw [show b.length - 1 - k = 0 by omega, r_hd_getD r r3.1, r_hd_getD b b3.1]
              exact own c (p5 true c hX).2.2
            | false =>
              have h5 : r_eqc c (X.2.2.1.getD c) r b = true := by
                unfold r_dp at h4
                rw [hX] at h4
                exact h4
              rw [r_eqc_iff len] at h5
              exact (h5 _ (by omega)).1
        · have hk' := List.mem_range.mp hk
          refine decide_eq_true ?_
          cases hc : X.2.2.1 with
          | none =>
            rcases hcl with q | q
            · omega
            · rw [hc] at q; cases q.1
          | some c =>
            have l2 : lc = b.length := by
              rcases hcl with q | q
              · rw [hc] at q; cases q.1
              · exact q.2.1
            rw [(r7 c hc).2 k (by omega), (b7 c hc).2 k (by omega), len]
            exact cyc c hc _ (by omega)
      · have tf : X.2.1 = none ∧ X.2.2.1 = none := by
          unfold r_tr at t
          cases h1 : X.2.1 with
          | none =>
            cases h2 : X.2.2.1 with
            | none => exact ⟨rfl, rfl⟩
            | some c => rw [h1, h2] at t; exact absurd rfl t
          | some c => rw [h1] at t; exact absurd rfl t
        have ls0 : ls = 0 ∧ ls' = 0 := by
          rcases hsl with q | q
          · exact q.2
          · rw [tf.1] at q; cases q.1
        have lc0 : lc = 0 ∧ lc' = 0 := by
          rcases hcl with q | q
          · exact q.2
          · rw [tf.2] at q; cases q.1
        have hN' : N = X.1 := by rw [hN, tf.2]; rfl
        refine ⟨⟨⟨⟨by omega, by omega⟩, fun k hk => ?_⟩, fun k hk => ?_⟩, fun k hk => ?_⟩
        · have hk' := List.mem_range.mp hk
          rw [r1 k (by omega), b1 k (by omega)]
          exact decide_eq_true (own k (by omega))
        · rw [List.mem_range'_1] at hk; omega
        · have := List.mem_range.mp hk; omega
  unfold f_M_isAlike
  rw [x_gR, f1.1, x_aI (by omega) (by omega), p3, x_gR, f2.1, x_aI (by omega) (by omega), ← er]
  cases hc : X.2.2.1 with
  | none =>
    rw [p6 hc, if_pos rfl]
    exact e21 _ _ (by rw [hN, hc]; exact Int32.add_zero _)
  | some c =>
    rw [if_neg (p7 c hc).1]
    exact e21 _ _ (by rw [hN, hc, x_p1]; rfl)
end
