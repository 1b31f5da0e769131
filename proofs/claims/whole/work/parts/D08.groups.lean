/-! RUNNING (engine): groups -/
abbrev r_It : Type := Nat × List r_Op
def r_it0 : r_It := (0, [])
def X_it (w : g_St) (so : Nat → Option Nat) (S : Nat) (its : List r_It) : Prop := S % 64 = 8 ∧ g_I w 264 S = Int32.ofNat its.length ∧ its.length ≤ 4 ∧ ∃ G I, g_R w 200 S = some G ∧ G % 64 = 23 ∧ g_ln w G = 4 ∧ g_R w 136 S = some I ∧ I % 64 = 26 ∧ g_ln w I = 4 ∧ ∀ m, m < its.length → ((its.getD m r_it0).1 = 0 ∧ g_AR w G m = none ∨ (20 ≤ (its.getD m r_it0).1 ∧ (its.getD m r_it0).1 ≤ 23) ∧ g_AR w G m = some ((its.getD m r_it0).1 * 64 + 13)) ∧ ((its.getD m r_it0).1 ≠ 20 → ∃ i, g_AR w I m = some (i * 64 + 11) ∧ X_ex w so i (its.getD m r_it0).2)
theorem X_it.ag {v w : g_St} {so : Nat → Option Nat} {S : Nat} {its : List r_It} (h : X_it v so S its) (f : E_ag v w) : X_it w so S its := by
  obtain ⟨h1, h2, h3, G, I, g1, g2, g3, g4, g5, g6, g7⟩ := h
  have aG := f.2 G (by omega) (by omega)
  have aI := f.2 I (by omega) (by omega)
  refine ⟨h1, by rw [f.I (by omega) (by omega) (by decide)]; exact h2, h3, G, I, by rw [f.R (by omega) (by omega) (by decide)]; exact g1, g2, by rw [aG.2]; exact g3, by rw [f.R (by omega) (by omega) (by decide)]; exact g4, g5, by rw [aI.2]; exact g6, fun m hm => ?_⟩
  obtain ⟨a1, a2⟩ := g7 m hm
  refine ⟨by rw [aG.1]; exact a1, fun e => ?_⟩
  obtain ⟨i, b1, b2⟩ := a2 e
  exact ⟨i, by rw [aI.1]; exact b1, b2.ag f⟩
/-- a group: what is gathered, whether something came -/
abbrev r_Gp : Type := (Nat → Int64) × (Nat → Bool)
def r_gp0 : r_Gp := (r_c0, fun _ => false)
def r_g1 (its : List r_It) (iv : Nat → Int64) : r_Gp := (fun i => if (its.getD i r_it0).1 = 0 then iv i else 0, fun _ => false)
def r_eqg (its : List r_It) (iv : Nat → Int64) (g : r_Gp) : Bool := (List.range its.length).all fun i => !decide ((its.getD i r_it0).1 = 0) || decide (g.1 i = iv i)
def r_add (k : Nat) (g : Int64 × Bool) (v : Int64) : Int64 × Bool := if v = r_N then g else if k = 21 then (g.1 + v, true) else if g.2 = false then (v, true) else if k = 22 then (if v < g.1 then v else g.1, true) else (if v < g.1 then g.1 else v, true)
def r_fd (its : List r_It) (env : Nat → Nat → Int64) (g : r_Gp) (i : Nat) : Int64 × Bool := if (its.getD i r_it0).1 = 20 then (g.1 i + 1, g.2 i) else if (its.getD i r_it0).1 = 0 then (g.1 i, g.2 i) else r_add (its.getD i r_it0).1 (g.1 i, g.2 i) (r_val env (its.getD i r_it0).2)
def r_fold (its : List r_It) (env : Nat → Nat → Int64) (g : r_Gp) : r_Gp := (fun i => if i < its.length then (r_fd its env g i).1 else g.1 i, fun i => if i < its.length then (r_fd its env g i).2 else g.2 i)
/-- the groups; N: how many combinations there were -/
def X_gr (w : g_St) (n N : Nat) (gs : List r_Gp) : Prop := g_I w 964 4 = Int32.ofNat gs.length ∧ gs.length ≤ 48 ∧ ∀ g, g < gs.length → ∀ i, i < n → g_AL w 213 (g * 4 + i) = (gs.getD g r_gp0).1 i ∧ ∃ c, g_AI w 212 (g * 4 + i) = Int32.ofNat c ∧ c ≤ N ∧ ((gs.getD g r_gp0).2 i = true ↔ 0 < c)
/-- only the groups are changed -/
def X_gf (w w' : g_St) : Prop := (g_cnt w' = g_cnt w ∧ g_cn w' = g_cn w ∧ g_sn w' = g_sn w ∧ g_R w' = g_R w ∧ g_L w' = g_L w ∧ g_AR w' = g_AR w ∧ g_ln w' = g_ln w) ∧ (∀ k a, ¬ (a = 4 ∧ (k = 964 ∨ k = 1028)) → g_I w' k a = g_I w k a) ∧ (∀ a i, a ≠ 213 → g_AL w' a i = g_AL w a i) ∧ ∀ a i, a ≠ 212 → g_AI w' a i = g_AI w a i
theorem X_gf.re {w : g_St} : X_gf w w := ⟨⟨rfl, rfl, rfl, rfl, rfl, rfl, rfl⟩, fun _ _ _ => rfl, fun _ _ _ => rfl, fun _ _ _ => rfl⟩
theorem X_gf.trans {u v w : g_St} (h : X_gf u v) (g : X_gf v w) : X_gf u w := by
  obtain ⟨⟨a1, a2, a3, a4, a5, a6, a7⟩, a8, a9, a10⟩ := h
  obtain ⟨⟨b1, b2, b3, b4, b5, b6, b7⟩, b8, b9, b10⟩ := g
  exact ⟨⟨b1.trans a1, b2.trans a2, b3.trans a3, b4.trans a4, b5.trans a5, b6.trans a6, b7.trans a7⟩, fun k a x => (b8 k a x).trans (a8 k a x), fun a i x => (b9 a i x).trans (a9 a i x), fun a i x => (b10 a i x).trans (a10 a i x)⟩
theorem X_gf.ag {w w' : g_St} (h : X_gf w w') : E_ag w w' := ⟨fun a a1 a2 => ⟨fun k _ _ _ _ => h.2.1 k a (fun q => by have := q.1; omega), fun k _ => by rw [h.1.2.2.2.1], fun k => by rw [h.1.2.2.2.2.1]⟩, fun a _ _ => ⟨by rw [h.1.2.2.2.2.2.1], by rw [h.1.2.2.2.2.2.2]⟩⟩
theorem X_gf.sL {w w' : g_St} (h : X_gf w w') (i : Nat) (x : Int64) : X_gf w (g_setAL w' 213 i x) := ⟨h.1, h.2.1, fun a j e => by rw [x_AL_AL, if_neg (fun q => e q.1)]; exact h.2.2.1 a j e, h.2.2.2⟩
theorem X_gf.sI {w w' : g_St} (h : X_gf w w') (i : Nat) (x : Int32) : X_gf w (g_setAI w' 212 i x) := ⟨h.1, h.2.1, h.2.2.1, fun a j e => by rw [x_AI_AI, if_neg (fun q => e q.1)]; exact h.2.2.2 a j e⟩
theorem X_gf.pI {w w' : g_St} (h : X_gf w w') {k : Nat} (hk : k = 964 ∨ k = 1028) (x : Int32) : X_gf w (g_setI w' k 4 x) := ⟨h.1, fun k' a' e => by rw [x_I_I, if_neg (fun q => e ⟨q.2, by rw [q.1]; exact hk⟩)]; exact h.2.1 k' a' e, h.2.2.1, h.2.2.2⟩
/-- what a runner has: selection, items, groups -/
def X_rn (w : g_St) (S : Nat) : Prop := g_R w 772 4 = some S ∧ g_R w 260 4 = some 149 ∧ g_ln w 149 = 4 ∧ g_R w 324 4 = some 213 ∧ g_ln w 213 = 192 ∧ g_R w 388 4 = some 212 ∧ g_ln w 212 = 192
theorem X_rn.of {w w' : g_St} {S : Nat} (h : X_rn w S) (h1 : g_R w' = g_R w) (h2 : g_ln w' = g_ln w) : X_rn w' S := by unfold X_rn at *; rw [h1, h2]; exact h
theorem X_gr.fr {w w' : g_St} {n N : Nat} {gs : List r_Gp} (h : X_gr w n N gs) (h1 : g_I w' 964 4 = g_I w 964 4) (h2 : ∀ i, i < 4 * gs.length → g_AL w' 213 i = g_AL w 213 i) (h3 : ∀ i, i < 4 * gs.length → g_AI w' 212 i = g_AI w 212 i) (hn : n ≤ 4) : X_gr w' n N gs := by
  obtain ⟨a1, a2, a3⟩ := h
  refine ⟨by rw [h1]; exact a1, a2, fun g hg i hi => ?_⟩
  obtain ⟨b1, c, b2, b3, b4⟩ := a3 g hg i hi
  exact ⟨by rw [h2 _ (by omega)]; exact b1, c, by rw [h3 _ (by omega)]; exact b2, b3, b4⟩
theorem y_addg {w : g_St} {S : Nat} {so : Nat → Option Nat} {its : List r_It} (rn : X_rn w S) (hit : X_it w so S its) {N : Nat} {gs : List r_Gp} (hg : X_gr w its.length N gs) (lt : gs.length < 48) {iv : Nat → Int64} (hv : ∀ i, i < its.length → (its.getD i r_it0).1 = 0 → g_AL w 149 i = iv i) : ∃ w', f_Ru_addGroup (some 4) w = some ((), w') ∧ X_gf w w' ∧ g_I w' 1028 4 = g_I w 1028 4 ∧ X_gr w' its.length N (gs ++ [r_g1 its iv]) := by
  obtain ⟨r1, r2, r3, r4, r5, r6, r7⟩ := rn
  obtain ⟨h1, h2, h3, G, I, g1, g2, g3, g4, g5, g6, g7⟩ := hit
  obtain ⟨a1, a2, a3⟩ := hg
  unfold f_Ru_addGroup
  refine z_cl its.length (fun f i s => f_Ru_addGroup_2 f (some 4) (Int32.ofNat i) s) (fun s => some ((), s)) (fun i s => X_gf w s ∧ g_I s = g_I w ∧ (∀ j, j < 4 * gs.length → g_AL s 213 j = g_AL w 213 j ∧ g_AI s 212 j = g_AI w 212 j) ∧ ∀ j, j < i → g_AL s 213 (gs.length * 4 + j) = (r_g1 its iv).1 j ∧ g_AI s 212 (gs.length * 4 + j) = 0) (fun w' => X_gf w w' ∧ g_I w' 1028 4 = g_I w 1028 4 ∧ X_gr w' its.length N (gs ++ [r_g1 its iv])) ?_ ?_ its.length 0 w 200000 (by omega) (by omega) ⟨X_gf.re, rfl, fun _ _ => ⟨rfl, rfl⟩, fun j hj => by omega⟩
  · rintro f s ⟨M, hI, hO, hV⟩
    have R : ∀ k c, g_R s k c = g_R w k c := fun k c => by rw [M.1.2.2.2.1]
    refine ⟨g_setI s 964 4 (Int32.ofNat (gs.length + 1)), ?_, M.pI (Or.inl rfl) _, by rw [x_Ik (by decide), hI], by rw [x_Iss, List.length_append, List.length_singleton], by rw [List.length_append, List.length_singleton]; omega, fun g hg i hi => ?_⟩
    · show f_Ru_addGroup_2 (f + 1) (some 4) (Int32.ofNat its.length) s = _
      rw [f_Ru_addGroup_2, x_gR, R, r1, x_gI, hI, h2, if_pos (by rw [x_le (by omega) (by omega)]; exact Nat.le_refl _), x_gI, hI, a1, x_pI, x_p1]
    · rw [List.length_append, List.length_singleton] at hg
      rw [z_getD_app]
      show g_AL s 213 _ = _ ∧ ∃ c, g_AI s 212 _ = _ ∧ _
      by_cases e : g < gs.length
      · rw [if_pos e]
        obtain ⟨o1, o2⟩ := hO (g * 4 + i) (by omega)
        rw [o1, o2]
        exact a3 g e i hi
      · have eg : g = gs.length := by omega
        rw [if_neg e, if_pos eg, eg]
        obtain ⟨o1, o2⟩ := hV i hi
        exact ⟨o1, 0, o2, Nat.zero_le _, ⟨fun h => (by cases h), fun h => by omega⟩⟩
  · rintro f i s hi ⟨M, hI, hO, hV⟩
    have R : ∀ k c, g_R s k c = g_R w k c := fun k c => by rw [M.1.2.2.2.1]
    have Nn : ∀ c, g_ln s c = g_ln w c := fun c => by rw [M.1.2.2.2.2.2.2]
    have A : ∀ c j, g_AR s c j = g_AR w c j := fun c j => by rw [M.1.2.2.2.2.2.1]
    obtain ⟨k1, k2⟩ := g7 i hi
    have fin : ∀ y, y = (r_g1 its iv).1 i → X_gf w (g_setAI (g_setAL s 213 (gs.length * 4 + i) y) 212 (gs.length * 4 + i) 0) ∧ g_I (g_setAI (g_setAL s 213 (gs.length * 4 + i) y) 212 (gs.length * 4 + i) 0) = g_I w ∧ (∀ j, j < 4 * gs.length → g_AL (g_setAI (g_setAL s 213 (gs.length * 4 + i) y) 212 (gs.length * 4 + i) 0) 213 j = g_AL w 213 j ∧ g_AI (g_setAI (g_setAL s 213 (gs.length * 4 + i) y) 212 (gs.length * 4 + i) 0) 212 j = g_AI w 212 j) ∧ ∀ j, j < i + 1 → g_AL (g_setAI (g_setAL s 213 (gs.length * 4 + i) y) 212 (gs.length * 4 + i) 0) 213 (gs.length * 4 + j) = (r_g1 its iv).1 j ∧ g_AI (g_setAI (g_setAL s 213 (gs.length * 4 + i) y) 212 (gs.length * 4 + i) 0) 212 (gs.length * 4 + j) = 0 := by
      intro y hy
      refine ⟨(M.sL _ _).sI _ _, hI, fun j hj => ?_, fun j hj => ?_⟩
      · show g_AL (g_setAL s 213 (gs.length * 4 + i) y) 213 j = _ ∧ _
        rw [x_AL_AL, if_neg (fun q => by have := q.2; omega), x_AI_AI, if_neg (fun q => by have := q.2; omega)]
        exact hO j hj
      · show g_AL (g_setAL s 213 (gs.length * 4 + i) y) 213 _ = _ ∧ _
        rw [x_AL_AL, x_AI_AI]
        by_cases e : j = i
        · rw [if_pos ⟨rfl, by rw [e]⟩, if_pos ⟨rfl, by rw [e]⟩, e]; exact ⟨hy, rfl⟩
        · rw [if_neg (fun q => by have := q.2; omega), if_neg (fun q => by have := q.2; omega)]
          exact hV j (by omega)
    have st : f_Ru_addGroup_2 (f + 1) (some 4) (Int32.ofNat i) s = if g_AR w G i = none then f_Ru_addGroup_2 f (some 4) (Int32.ofNat (i + 1)) (g_setAI (g_setAL s 213 (gs.length * 4 + i) (g_AL w 149 i)) 212 (gs.length * 4 + i) 0) else f_Ru_addGroup_2 f (some 4) (Int32.ofNat (i + 1)) (g_setAI (g_setAL s 213 (gs.length * 4 + i) 0) 212 (gs.length * 4 + i) 0) := by
      rw [f_Ru_addGroup_2, x_gR, R, r1, x_gI, hI, h2, if_neg (by rw [x_le (by omega) (by omega)]; omega), x_gI, hI, a1, x_gR, R, r4, x_gR, R, r1, x_gR, R, g1, x_aR (by omega) (by rw [Nn]; omega), A]
      congr 1
      · rw [x_gR, R, r2, x_aL (by omega) (by rw [Nn]; omega), M.2.2.1 149 i (by decide), show (4 : Int32) = Int32.ofNat 4 from rfl, x_mul, x_add, x_sL (by omega) (by rw [Nn]; omega), x_gR]
        show g_sI _ (g_R s 388 4) _ _ _ = _
        rw [R, r6, x_sI (by omega) (by show _ < g_ln s 212; rw [Nn]; omega), x_p1]
      · rw [show (4 : Int32) = Int32.ofNat 4 from rfl, x_mul, x_add, x_sL (by omega) (by rw [Nn]; omega), x_gR]
        show g_sI _ (g_R s 388 4) _ _ _ = _
        rw [R, r6, x_sI (by omega) (by show _ < g_ln s 212; rw [Nn]; omega), x_p1]
    rcases k1 with ⟨e1, e2⟩ | ⟨e1, e2⟩
    · rw [if_pos e2] at st
      exact ⟨_, st, fin _ (by rw [hv i hi e1]; unfold r_g1; simp only []; rw [if_pos e1])⟩
    · rw [if_neg (by rw [e2]; exact Option.some_ne_none _)] at st
      exact ⟨_, st, fin _ (by unfold r_g1; simp only []; rw [if_neg (by omega)])⟩
