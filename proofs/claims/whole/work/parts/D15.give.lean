/-! RUNNING (engine): the groups are given -/
/-- the row of a group -/
def r_gv (its : List r_It) (g : r_Gp) : Nat → Int64 := fun i => if (its.getD i r_it0).1 = 0 ∨ (its.getD i r_it0).1 = 20 ∨ g.2 i = true then g.1 i else r_N
def r_gb1 (n : Nat) (g : r_Gp) : Prop := ∃ i, i < n ∧ g.2 i = true ∧ (g.1 i = r_N ∨ r_oor (g.1 i) = true)
def r_gbad (n : Nat) (gs : List r_Gp) : Prop := ∃ j, j < gs.length ∧ r_gb1 n (gs.getD j r_gp0)
theorem X_gr.i9 {w w' : g_St} {n N : Nat} {gs : List r_Gp} (h : X_gr w n N gs) (f : X_i9 w w') (hn : n ≤ 4) : X_gr w' n N gs := h.fr (by rw [f.2.1]) (fun i _ => f.2.2.2 _ _ (by decide)) (fun i _ => by rw [f.2.2.1]) hn
theorem X_gr.fm {w w' : g_St} {n N p m : Nat} {gs : List r_Gp} (h : X_gr w n N gs) (f : X_fm p m w w') (hn : n ≤ 4) : X_gr w' n N gs := h.fr (f.2.1 _ _ (fun q => by have := q.1; omega) (fun q => by have := q.2; omega)) (fun i _ => f.2.2.1 _ _ (fun q => by have := q.1; omega) (by decide)) (fun i _ => f.2.2.2 _ _ (fun q => by have := q.1; omega)) hn
section
variable {α : Type} {p n0 S N : Nat} {so : Nat → Option Nat} {w0 : g_St} {its : List r_It} {gs : List r_Gp} {Rel : g_St → α → Prop} {put : (Nat → Int64) → α → α}
theorem y_give1 (rn : X_rn w0 S) (hit : X_it w0 so S its) (hN : N < 2 ^ 30) (hg : X_gr w0 its.length N gs) (k20 : Option Nat → Int32 → g_St → Option ((Unit ⊕ Nat) × g_St)) {g : Nat} (hgl : g < gs.length) (rm : g_cn w0 + 8 ≤ 601024 ∧ g_sn w0 + 512 ≤ 7293034) : (r_gb1 its.length (gs.getD g r_gp0) → f_Ru_giveGroups_30 k20 200000 (some 4) (Int32.ofNat g) 0 w0 = some (.inr 2, g_bump w0 8 512)) ∧ (¬ r_gb1 its.length (gs.getD g r_gp0) → f_Ru_giveGroups_30 k20 200000 (some 4) (Int32.ofNat g) 0 w0 = k20 (some 4) (Int32.ofNat (g + 1)) w0) := by
  obtain ⟨r1, r2, r3, r4, r5, r6, r7⟩ := rn
  obtain ⟨h1, h2, h3, G, I, g1, g2, g3, g4, g5, g6, g7⟩ := hit
  obtain ⟨a1, a2, a3⟩ := hg
  have key : ∀ (d i f : Nat), i + d = its.length → d < f → ((∃ j, i ≤ j ∧ j < its.length ∧ (gs.getD g r_gp0).2 j = true ∧ ((gs.getD g r_gp0).1 j = r_N ∨ r_oor ((gs.getD g r_gp0).1 j) = true)) → f_Ru_giveGroups_30 k20 f (some 4) (Int32.ofNat g) (Int32.ofNat i) w0 = some (.inr 2, g_bump w0 8 512)) ∧ (¬ (∃ j, i ≤ j ∧ j < its.length ∧ (gs.getD g r_gp0).2 j = true ∧ ((gs.getD g r_gp0).1 j = r_N ∨ r_oor ((gs.getD g r_gp0).1 j) = true)) → f_Ru_giveGroups_30 k20 f (some 4) (Int32.ofNat g) (Int32.ofNat i) w0 = k20 (some 4) (Int32.ofNat (g + 1)) w0) := by
    intro d
    induction d with
    | zero =>
      intro i f e1 e2
      obtain ⟨f, rfl⟩ : ∃ m, f = m + 1 := ⟨f - 1, by omega⟩
      refine ⟨fun ⟨j, j1, j2, _⟩ => by omega, fun _ => ?_⟩
      rw [f_Ru_giveGroups_30, x_gR, r1, x_gI, h2, if_pos (by rw [x_le (by omega) (by omega)]; omega), x_p1]
    | succ d ih =>
      intro i f e1 e2
      obtain ⟨f, rfl⟩ : ∃ m, f = m + 1 := ⟨f - 1, by omega⟩
      obtain ⟨b1, c, b2, b3, b4⟩ := a3 g hgl i (by omega)
      obtain ⟨n1, n2⟩ := ih (i + 1) f (by omega) (by omega)
      have go : ¬ ((gs.getD g r_gp0).2 i = true ∧ ((gs.getD g r_gp0).1 i = r_N ∨ r_oor ((gs.getD g r_gp0).1 i) = true)) → f_Ru_giveGroups_30 k20 (f + 1) (some 4) (Int32.ofNat g) (Int32.ofNat i) w0 = f_Ru_giveGroups_30 k20 f (some 4) (Int32.ofNat g) (Int32.ofNat (i + 1)) w0 → ((∃ j, i ≤ j ∧ j < its.length ∧ (gs.getD g r_gp0).2 j = true ∧ ((gs.getD g r_gp0).1 j = r_N ∨ r_oor ((gs.getD g r_gp0).1 j) = true)) → f_Ru_giveGroups_30 k20 (f + 1) (some 4) (Int32.ofNat g) (Int32.ofNat i) w0 = some (.inr 2, g_bump w0 8 512)) ∧ (¬ (∃ j, i ≤ j ∧ j < its.length ∧ (gs.getD g r_gp0).2 j = true ∧ ((gs.getD g r_gp0).1 j = r_N ∨ r_oor ((gs.getD g r_gp0).1 j) = true)) → f_Ru_giveGroups_30 k20 (f + 1) (some 4) (Int32.ofNat g) (Int32.ofNat i) w0 = k20 (some 4) (Int32.ofNat (g + 1)) w0) := by
        intro no e
        rw [e]
        refine ⟨fun ⟨j, j1, j2, j3⟩ => n1 ⟨j, ?_, j2, j3⟩, fun nn => n2 (fun ⟨j, j1, j2⟩ => nn ⟨j, by omega, j2⟩)⟩
        by_cases q : j = i
        · rw [q] at j3; exact absurd j3 no
        · omega
      have st : f_Ru_giveGroups_30 k20 (f + 1) (some 4) (Int32.ofNat g) (Int32.ofNat i) w0 = if Int32.ofNat c ≤ 0 then f_Ru_giveGroups_30 k20 f (some 4) (Int32.ofNat g) (Int32.ofNat (i + 1)) w0 else if (gs.getD g r_gp0).1 i = 1099511627776 then g_thr w0 2 else if z_g (r_oor ((gs.getD g r_gp0).1 i)) = 0 then f_Ru_giveGroups_30 k20 f (some 4) (Int32.ofNat g) (Int32.ofNat (i + 1)) w0 else g_thr w0 2 := by
        rw [f_Ru_giveGroups_30, x_gR, r1, x_gI, h2, if_neg (by rw [x_le (by omega) (by omega)]; omega), x_gR, r6, show (4 : Int32) = Int32.ofNat 4 from rfl, x_mul, x_add, x_aI (by omega) (by omega), b2, x_gR, r4, x_aL (by omega) (by omega), b1, x_gR, r4, x_aL (by omega) (by omega), b1, y_oor, x_c, x_p1]
      have c0 : (Int32.ofNat c ≤ 0) = (c ≤ 0) := x_le (b := 0) (by omega) (by omega)
      by_cases w1 : c ≤ 0
      · exact go (fun q => by have := b4.mp q.1; omega) (by rw [st, if_pos (by rw [c0]; exact w1)])
      · rw [if_neg (by rw [c0]; exact w1)] at st
        have t2 : (gs.getD g r_gp0).2 i = true := b4.mpr (by omega)
        by_cases w2 : (gs.getD g r_gp0).1 i = r_N
        · rw [if_pos w2, x_thr rm.1 rm.2] at st
          exact ⟨fun _ => st, fun no => absurd ⟨i, Nat.le_refl _, by omega, t2, Or.inl w2⟩ no⟩
        · rw [if_neg w2] at st
          cases ho : r_oor ((gs.getD g r_gp0).1 i) with
          | true =>
            rw [ho, if_neg (show ¬ z_g true = 0 from by decide), x_thr rm.1 rm.2] at st
            exact ⟨fun _ => st, fun no => absurd ⟨i, Nat.le_refl _, by omega, t2, Or.inr ho⟩ no⟩
          | false =>
            rw [ho, if_pos (show z_g false = 0 from rfl)] at st
            exact go (fun q => by rcases q.2 with e | e; exact w2 e; rw [ho] at e; cases e) st
  obtain ⟨k1, k2⟩ := key its.length 0 200000 (by omega) (by omega)
  exact ⟨fun ⟨j, j1, j2⟩ => k1 ⟨j, Nat.zero_le _, j1, j2⟩, fun no => k2 (fun ⟨j, _, j1, j2⟩ => no ⟨j, j1, j2⟩)⟩
/-- one group is laid into the items -/
theorem y_give2 {w : g_St} (rn : X_rn w S) (hit : X_it w so S its) (hN : N < 2 ^ 30) (hg : X_gr w its.length N gs) (k106 : Option Nat → Int32 → g_St → Option ((Unit ⊕ Nat) × g_St)) {g : Nat} (hgl : g < gs.length) : ∃ w', X_i9 w w' ∧ (∀ i, i < its.length → g_AL w' 149 i = r_gv its (gs.getD g r_gp0) i) ∧ f_Ru_giveGroups_116 k106 200000 (some 4) (Int32.ofNat g) 0 w = g_c (f_Ru_come (some 4) w') fun _ s4 => k106 (some 4) (Int32.ofNat (g + 1)) s4 := by
  obtain ⟨r1, r2, r3, r4, r5, r6, r7⟩ := rn
  obtain ⟨h1, h2, h3, G, I, g1, g2, g3, g4, g5, g6, g7⟩ := hit
  obtain ⟨a1, a2, a3⟩ := hg
  have key : ∀ (d i f : Nat) (s : g_St), i + d = its.length → d < f → X_i9 w s → (∀ j, j < i → g_AL s 149 j = r_gv its (gs.getD g r_gp0) j) → ∃ w', X_i9 w w' ∧ (∀ i, i < its.length → g_AL w' 149 i = r_gv its (gs.getD g r_gp0) i) ∧ f_Ru_giveGroups_116 k106 f (some 4) (Int32.ofNat g) (Int32.ofNat i) s = g_c (f_Ru_come (some 4) w') fun _ s4 => k106 (some 4) (Int32.ofNat (g + 1)) s4 := by
    intro d
    induction d with
    | zero =>
      intro i f s e1 e2 M hv
      obtain ⟨f, rfl⟩ : ∃ m, f = m + 1 := ⟨f - 1, by omega⟩
      refine ⟨s, M, fun j hj => hv j (by omega), ?_⟩
      rw [f_Ru_giveGroups_116, x_gR, M.1.2.2.2.1, r1, x_gI, M.2.1, h2, if_pos (by rw [x_le (by omega) (by omega)]; omega), x_nn, x_p1]
    | succ d ih =>
      intro i f s e1 e2 M hv
      obtain ⟨f, rfl⟩ : ∃ m, f = m + 1 := ⟨f - 1, by omega⟩
      have R : ∀ k a, g_R s k a = g_R w k a := fun k a => by rw [M.1.2.2.2.1]
      have Ln : ∀ a, g_ln s a = g_ln w a := fun a => by rw [M.1.2.2.2.2.2.2]
      obtain ⟨b1, c, b2, b3, b4⟩ := a3 g hgl i (by omega)
      obtain ⟨k1, k2⟩ := g7 i (by omega)
      have nx : ∀ y, y = r_gv its (gs.getD g r_gp0) i → ∃ w', X_i9 w w' ∧ (∀ i, i < its.length → g_AL w' 149 i = r_gv its (gs.getD g r_gp0) i) ∧ f_Ru_giveGroups_116 k106 f (some 4) (Int32.ofNat g) (Int32.ofNat (i + 1)) (g_setAL s 149 i y) = g_c (f_Ru_come (some 4) w') fun _ s4 => k106 (some 4) (Int32.ofNat (g + 1)) s4 := fun y hy => ih (i + 1) f _ (by omega) (by omega) (M.sL _ _) (fun j hj => by
        rw [x_AL_AL]
        by_cases e : j = i
        · rw [if_pos ⟨rfl, e⟩, e]; exact hy
        · rw [if_neg (fun q => e q.2)]; exact hv j (by omega))
      have e165 : ∀ x, f_Ru_giveGroups_165 (f_Ru_giveGroups_116 k106 f) (some 4) (Int32.ofNat g) (Int32.ofNat i) (Int32.ofNat (g * 4 + i)) x s = if x = 0 then (if Int32.ofNat c ≤ 0 then f_Ru_giveGroups_116 k106 f (some 4) (Int32.ofNat g) (Int32.ofNat (i + 1)) (g_setAL s 149 i 1099511627776) else f_Ru_giveGroups_116 k106 f (some 4) (Int32.ofNat g) (Int32.ofNat (i + 1)) (g_setAL s 149 i ((gs.getD g r_gp0).1 i))) else f_Ru_giveGroups_116 k106 f (some 4) (Int32.ofNat g) (Int32.ofNat (i + 1)) (g_setAL s 149 i ((gs.getD g r_gp0).1 i)) := fun x => by
        unfold f_Ru_giveGroups_165
        rw [x_gR, R, r2, x_gR, R, r6, x_aI (by omega) (by rw [Ln]; omega), M.2.2.1, b2, x_sL (by omega) (by rw [Ln]; omega), x_gR, R, r4, x_aL (by omega) (by rw [Ln]; omega), M.2.2.2 213 _ (by decide), b1, x_sL (by omega) (by rw [Ln]; omega), x_p1]
      rw [f_Ru_giveGroups_116, x_gR, R, r1, x_gI, M.2.1, h2, if_neg (by rw [x_le (by omega) (by omega)]; omega), x_gR, R, r1, x_gR, R, g1, x_aR (by omega) (by rw [Ln]; omega), M.1.2.2.2.2.2.1, show (4 : Int32) = Int32.ofNat 4 from rfl, x_mul, x_add, e165, e165, if_neg (show ¬ (1 : Int32) = 0 from by decide), if_pos (show (0 : Int32) = 0 from rfl)]
      have c0 : (Int32.ofNat c ≤ 0) = (c ≤ 0) := x_le (b := 0) (by omega) (by omega)
      rcases k1 with ⟨c1, c2⟩ | ⟨c1, c2⟩
      · rw [c2, if_pos rfl]
        exact nx _ (by unfold r_gv; rw [if_pos (Or.inl c1)])
      · rw [c2, if_neg (Option.some_ne_none _), x_gR, R, r1, x_gR, R, g1, x_aR (by omega) (by rw [Ln]; omega), M.1.2.2.2.2.2.1, c2]
        by_cases c20 : (its.getD i r_it0).1 = 20
        · rw [if_pos (by rw [c20])]
          exact nx _ (by unfold r_gv; rw [if_pos (Or.inr (Or.inl c20))])
        · rw [if_neg (fun q => c20 (by have := Option.some.inj q; omega))]
          by_cases w1 : c ≤ 0
          · rw [if_pos (by rw [c0]; exact w1)]
            exact nx _ (by
              unfold r_gv
              rw [if_neg]
              rintro (q | q | q)
              · omega
              · exact c20 q
              · have := b4.mp q; omega)
          · rw [if_neg (by rw [c0]; exact w1)]
            exact nx _ (by unfold r_gv; rw [if_pos (Or.inr (Or.inr (b4.mpr (by omega))))])
  exact key its.length 0 200000 w (by omega) (by omega) X_i9.re (fun j hj => by omega)
theorem z_take_s {β : Type} (l : List β) (d : β) {i : Nat} (h : i < l.length) : l.take (i + 1) = l.take i ++ [l.getD i d] := by
  rw [List.take_succ, List.getD_eq_getElem?_getD, List.getElem?_eq_getElem h]; rfl
theorem y_give (hit : X_it w0 so S its) (rn : X_rn w0 S) (hN : N < 2 ^ 30) (hg : X_gr w0 its.length N gs) (hf : g_I w0 1028 4 = z_g false) (hi9 : ∀ w w' a, X_i9 w w' → Rel w a → Rel w' a) (hcome : ∀ w a vals, X_wf p n0 w0 w → Rel w a → (∀ i, i < its.length → g_AL w 149 i = vals i) → ∃ w' m, n0 ≤ m ∧ f_Ru_come (some 4) w = some ((), w') ∧ X_fm p m w w' ∧ Rel w' (put vals a)) (rm : g_cn w0 + 8 ≤ 601024 ∧ g_sn w0 + 512 ≤ 7293034) {a0 : α} (h0 : Rel w0 a0) : (r_gbad its.length gs → f_Ru_giveGroups (some 4) w0 = some (.inr 2, g_bump w0 8 512)) ∧ (¬ r_gbad its.length gs → ∃ w', f_Ru_giveGroups (some 4) w0 = some (.inl (), w') ∧ X_wf p n0 w0 w' ∧ Rel w' (gs.foldl (fun a g => put (r_gv its g) a) a0)) := by
  have l4 := hit.2.2.1
  have a1 := hg.1
  have a2 := hg.2.1
  have two : ∀ (d g f : Nat), g + d = gs.length → d < f → ((∃ j, g ≤ j ∧ j < gs.length ∧ r_gb1 its.length (gs.getD j r_gp0)) → f_Ru_giveGroups_20 f (some 4) (Int32.ofNat g) w0 = some (.inr 2, g_bump w0 8 512)) ∧ (¬ (∃ j, g ≤ j ∧ j < gs.length ∧ r_gb1 its.length (gs.getD j r_gp0)) → f_Ru_giveGroups_20 f (some 4) (Int32.ofNat g) w0 = f_Ru_giveGroups_106 200000 (some 4) 0 w0) := by
    intro d
    induction d with
    | zero =>
      intro g f e1 e2
      obtain ⟨f, rfl⟩ : ∃ m, f = m + 1 := ⟨f - 1, by omega⟩
      refine ⟨fun ⟨j, j1, j2, _⟩ => by omega, fun _ => ?_⟩
      rw [f_Ru_giveGroups_20, x_gI, a1, if_pos (by rw [x_le (by omega) (by omega)]; omega)]
    | succ d ih =>
      intro g f e1 e2
      obtain ⟨f, rfl⟩ : ∃ m, f = m + 1 := ⟨f - 1, by omega⟩
      obtain ⟨n1, n2⟩ := ih (g + 1) f (by omega) (by omega)
      obtain ⟨o1, o2⟩ := y_give1 rn hit hN hg (f_Ru_giveGroups_20 f) (g := g) (by omega) rm
      rw [f_Ru_giveGroups_20, x_gI, a1, if_neg (by rw [x_le (by omega) (by omega)]; omega)]
      by_cases b : r_gb1 its.length (gs.getD g r_gp0)
      · exact ⟨fun _ => o1 b, fun no => absurd ⟨g, Nat.le_refl _, by omega, b⟩ no⟩
      · rw [o2 b]
        refine ⟨fun ⟨j, j1, j2, j3⟩ => n1 ⟨j, ?_, j2, j3⟩, fun nn => n2 (fun ⟨j, j1, j2⟩ => nn ⟨j, by omega, j2⟩)⟩
        by_cases q : j = g
        · rw [q] at j3; exact absurd j3 b
        · omega
  obtain ⟨t1, t2⟩ := two gs.length 0 200000 (by omega) (by omega)
  have st : f_Ru_giveGroups (some 4) w0 = f_Ru_giveGroups_20 200000 (some 4) 0 w0 := by
    unfold f_Ru_giveGroups
    rw [x_gI, hf, if_pos (show z_g false = 0 from rfl)]
  refine ⟨fun ⟨j, j1, j2⟩ => by rw [st]; exact t1 ⟨j, Nat.zero_le _, j1, j2⟩, fun no => ?_⟩
  rw [st, show f_Ru_giveGroups_20 200000 (some 4) 0 w0 = f_Ru_giveGroups_106 200000 (some 4) 0 w0 from t2 (fun ⟨j, _, j1, j2⟩ => no ⟨j, j1, j2⟩)]
  refine z_cl gs.length (fun f g s => f_Ru_giveGroups_106 f (some 4) (Int32.ofNat g) s) (fun s => some (.inl (), s)) (fun g s => X_wf p n0 w0 s ∧ X_gr s its.length N gs ∧ Rel s ((gs.take g).foldl (fun a g => put (r_gv its g) a) a0)) (fun w' => X_wf p n0 w0 w' ∧ Rel w' (gs.foldl (fun a g => put (r_gv its g) a) a0)) ?_ ?_ gs.length 0 w0 200000 (by omega) (by omega) ⟨X_wf.re, hg, by rw [List.take_zero]; exact h0⟩
  · rintro f s ⟨F, Gr, hR⟩
    refine ⟨s, ?_, F, by rw [List.take_length] at hR; exact hR⟩
    show f_Ru_giveGroups_106 (f + 1) (some 4) (Int32.ofNat gs.length) s = _
    rw [f_Ru_giveGroups_106, x_gI, Gr.1, if_pos (by rw [x_le (by omega) (by omega)]; exact Nat.le_refl _)]
  · rintro f g s hgl ⟨F, Gr, hR⟩
    obtain ⟨s1, m1, m2, m3⟩ := y_give2 (rn.of F.1.2.2.2.1 F.1.2.2.2.2.2.2) (hit.ag F.ag) hN Gr (f_Ru_giveGroups_106 f) hgl
    obtain ⟨s2, m, c1, c2, c3, c4⟩ := hcome s1 _ _ (m1.wf F) (hi9 s s1 _ m1 hR) m2
    refine ⟨s2, ?_, (m1.wf F).trans (c3.wf c1), (Gr.i9 m1 l4).fm c3 l4, by rw [z_take_s gs r_gp0 hgl, List.foldl_append]; exact c4⟩
    show f_Ru_giveGroups_106 (f + 1) (some 4) (Int32.ofNat g) s = f_Ru_giveGroups_106 f (some 4) (Int32.ofNat (g + 1)) s2
    rw [f_Ru_giveGroups_106, x_gI, Gr.1, if_neg (by rw [x_le (by omega) (by omega)]; omega), m3, c2, x_c]
end
