/-! RUNNING (engine): a combination is gathered, whole -/
def r_gat (its : List r_It) (al : Nat) (env : Nat → Nat → Int64) (iv : Nat → Int64) (a : List r_Gp × Bool) : List r_Gp × Bool := match r_gfd its iv a.1 with
  | some g => (a.1.set g (r_fold its env (a.1.getD g r_gp0)), a.2)
  | none => if a.1.length < al then (a.1 ++ [r_fold its env (r_g1 its iv)], a.2) else (a.1, true)
/-- what the items use has rows -/
def r_uit (D : Nat → Nat → Prop) (its : List r_It) : Prop := ∀ m, m < its.length → (its.getD m r_it0).1 ≠ 20 → r_us D (its.getD m r_it0).2
theorem y_g12 {w : g_St} {S : Nat} {so : Nat → Option Nat} (hso : ∀ k r, so k = some r → r % 64 = 9) {its : List r_It} (rn : X_rn w S) (hit : X_it w so S its) {N : Nat} (hN : N < 2 ^ 30) {gs : List r_Gp} (hg : X_gr w its.length N gs) {g : Nat} (hgl : g < gs.length) {env : Nat → Nat → Int64} {D : Nat → Nat → Prop} (hu : r_uit D its) (hb : ∀ k j, D k j → X_bd w so env k (D k)) : ∃ w', f_Ru_gather_12 200000 (some 4) (Int32.ofNat g) 0 w = some ((), w') ∧ X_gf w w' ∧ g_I w' = g_I w ∧ X_gr w' its.length (N + 1) (gs.set g (r_fold its env (gs.getD g r_gp0))) := by
  have hit0 := hit
  obtain ⟨r1, r2, r3, r4, r5, r6, r7⟩ := rn
  obtain ⟨h1, h2, h3, G, I, g1, g2, g3, g4, g5, g6, g7⟩ := hit
  obtain ⟨a1, a2, a3⟩ := hg
  refine z_cl its.length (fun f i s => f_Ru_gather_12 f (some 4) (Int32.ofNat g) (Int32.ofNat i) s) (fun s => some ((), s)) (fun i s => X_gf w s ∧ g_I s = g_I w ∧ (∀ j, (j < g * 4 + i → g * 4 ≤ j → False) → g_AL s 213 j = g_AL w 213 j ∧ g_AI s 212 j = g_AI w 212 j) ∧ ∀ j, j < i → g_AL s 213 (g * 4 + j) = (r_fd its env (gs.getD g r_gp0) j).1 ∧ ∃ c, g_AI s 212 (g * 4 + j) = Int32.ofNat c ∧ c ≤ N + 1 ∧ ((r_fd its env (gs.getD g r_gp0) j).2 = true ↔ 0 < c)) (fun w' => X_gf w w' ∧ g_I w' = g_I w ∧ X_gr w' its.length (N + 1) (gs.set g (r_fold its env (gs.getD g r_gp0)))) ?_ ?_ its.length 0 w 200000 (by omega) (by omega) ⟨X_gf.re, rfl, fun _ _ => ⟨rfl, rfl⟩, fun j hj => by omega⟩
  · rintro f s ⟨M, hI, hO, hV⟩
    have R : ∀ k c, g_R s k c = g_R w k c := fun k c => by rw [M.1.2.2.2.1]
    refine ⟨s, ?_, M, hI, by rw [hI, List.length_set]; exact a1, by rw [List.length_set]; exact a2, fun g' hg' i hi => ?_⟩
    · show f_Ru_gather_12 (f + 1) (some 4) _ (Int32.ofNat its.length) s = _
      rw [f_Ru_gather_12, x_gR, R, r1, x_gI, hI, h2, if_pos (by rw [x_le (by omega) (by omega)]; exact Nat.le_refl _)]
    · rw [List.length_set] at hg'
      by_cases e : g' = g
      · have eg : (gs.set g (r_fold its env (gs.getD g r_gp0))).getD g r_gp0 = r_fold its env (gs.getD g r_gp0) := by
          rw [List.getD_eq_getElem?_getD, List.getElem?_set_self hgl]; rfl
        rw [e, eg]
        obtain ⟨v1, v2⟩ := hV i hi
        unfold r_fold
        simp only [if_pos hi]
        exact ⟨v1, v2⟩
      · have eg : (gs.set g (r_fold its env (gs.getD g r_gp0))).getD g' r_gp0 = gs.getD g' r_gp0 := by
          rw [List.getD_eq_getElem?_getD, List.getElem?_set_ne (fun q => e q.symm), ← List.getD_eq_getElem?_getD]
        rw [eg]
        obtain ⟨o1, o2⟩ := hO (g' * 4 + i) (fun x y => by omega)
        rw [o1, o2]
        obtain ⟨b1, c, b2, b3, b4⟩ := a3 g' hg' i hi
        exact ⟨b1, c, b2, by omega, b4⟩
  · rintro f i s hi ⟨M, hI, hO, hV⟩
    have R : ∀ k c, g_R s k c = g_R w k c := fun k c => by rw [M.1.2.2.2.1]
    have Nn : ∀ c, g_ln s c = g_ln w c := fun c => by rw [M.1.2.2.2.2.2.2]
    have A : ∀ c j, g_AR s c j = g_AR w c j := fun c j => by rw [M.1.2.2.2.2.2.1]
    obtain ⟨k1, k2⟩ := g7 i hi
    obtain ⟨b1, c, b2, b3, b4⟩ := a3 g hgl i hi
    obtain ⟨o1, o2⟩ := hO (g * 4 + i) (fun x y => by omega)
    have st : f_Ru_gather_12 (f + 1) (some 4) (Int32.ofNat g) (Int32.ofNat i) s = if g_AR w G i = some 1293 then f_Ru_gather_12 f (some 4) (Int32.ofNat g) (Int32.ofNat (i + 1)) (g_setAL s 213 (g * 4 + i) ((gs.getD g r_gp0).1 i + 1)) else if g_AR w G i = none then f_Ru_gather_12 f (some 4) (Int32.ofNat g) (Int32.ofNat (i + 1)) s else g_c (g_nn (g_AR w I i) (f_Te_value (g_AR w I i) s)) fun j15 s16 => g_c (g_nn (some 4) (f_Ru_addTo (some 4) (Int32.ofNat (g * 4 + i)) (g_AR w G i) j15 s16)) fun _ s18 => f_Ru_gather_12 f (some 4) (Int32.ofNat g) (Int32.ofNat (i + 1)) s18 := by
      rw [f_Ru_gather_12, x_gR, R, r1, x_gI, hI, h2, if_neg (by rw [x_le (by omega) (by omega)]; omega), x_gR, R, r1, x_gR, R, g1, x_aR (by omega) (by rw [Nn]; omega), A]
      congr 1
      · rw [x_gR, R, r4, show (4 : Int32) = Int32.ofNat 4 from rfl, x_mul, x_add, x_aL (by omega) (by rw [Nn]; omega), o1, b1, x_sL (by omega) (by rw [Nn]; omega), x_p1]
      · rw [x_gR, R, r1, x_gR, R, g1, x_aR (by omega) (by rw [Nn]; omega), A, x_p1]
        congr 1
        rw [x_gR, R, r1, x_gR, R, g1, x_aR (by omega) (by rw [Nn]; omega), A, x_gR, R, r1, x_gR, R, g4, x_aR (by omega) (by rw [Nn]; omega), A, show (4 : Int32) = Int32.ofNat 4 from rfl, x_mul, x_add]
    have pack : ∀ s' y, X_gf w s' → g_I s' = g_I w → (∀ j, j ≠ g * 4 + i → g_AL s' 213 j = g_AL s 213 j ∧ g_AI s' 212 j = g_AI s 212 j) → g_AL s' 213 (g * 4 + i) = y → y = (r_fd its env (gs.getD g r_gp0) i).1 → (∃ c, g_AI s' 212 (g * 4 + i) = Int32.ofNat c ∧ c ≤ N + 1 ∧ ((r_fd its env (gs.getD g r_gp0) i).2 = true ↔ 0 < c)) → X_gf w s' ∧ g_I s' = g_I w ∧ (∀ j, (j < g * 4 + (i + 1) → g * 4 ≤ j → False) → g_AL s' 213 j = g_AL w 213 j ∧ g_AI s' 212 j = g_AI w 212 j) ∧ ∀ j, j < i + 1 → g_AL s' 213 (g * 4 + j) = (r_fd its env (gs.getD g r_gp0) j).1 ∧ ∃ c, g_AI s' 212 (g * 4 + j) = Int32.ofNat c ∧ c ≤ N + 1 ∧ ((r_fd its env (gs.getD g r_gp0) j).2 = true ↔ 0 < c) := by
      intro s' y M' I' O' e1 e2 e3
      refine ⟨M', I', fun j hj => ?_, fun j hj => ?_⟩
      · obtain ⟨q1, q2⟩ := O' j (fun q => hj (by omega) (by omega))
        rw [q1, q2]
        exact hO j (fun x y => hj (by omega) y)
      · by_cases e : j = i
        · rw [e]; exact ⟨e1.trans e2, e3⟩
        · obtain ⟨q1, q2⟩ := O' (g * 4 + j) (by omega)
          rw [q1, q2]
          exact hV j (by omega)
    rcases k1 with ⟨e1, e2⟩ | ⟨e1, e2⟩
    · rw [e2, if_neg (fun q => by cases q), if_pos rfl] at st
      have fd : r_fd its env (gs.getD g r_gp0) i = ((gs.getD g r_gp0).1 i, (gs.getD g r_gp0).2 i) := by unfold r_fd; rw [if_neg (by omega), if_pos e1]
      exact ⟨s, st, pack s _ M hI (fun _ _ => ⟨rfl, rfl⟩) o1 (by rw [fd]; exact b1) ⟨c, by rw [o2]; exact b2, by omega, by rw [fd]; exact b4⟩⟩
    · by_cases c20 : (its.getD i r_it0).1 = 20
      · rw [e2, if_pos (by rw [c20])] at st
        have fd : r_fd its env (gs.getD g r_gp0) i = ((gs.getD g r_gp0).1 i + 1, (gs.getD g r_gp0).2 i) := by unfold r_fd; rw [if_pos c20]
        refine ⟨_, st, pack _ ((gs.getD g r_gp0).1 i + 1) (M.sL _ _) hI (fun j hj => ⟨by rw [x_AL_AL, if_neg (fun q => hj q.2)], rfl⟩) (by rw [x_AL_AL, if_pos ⟨rfl, rfl⟩]) (by rw [fd]) ⟨c, ?_, by omega, by rw [fd]; exact b4⟩⟩
        show g_AI s 212 _ = _
        rw [o2]; exact b2
      · obtain ⟨ti, t1, t2⟩ := k2 c20
        have v := y_val (t2.ag M.ag) (hu i hi c20) (fun k j hk => (hb k j hk).gf (fun r hr => hso k r hr) M)
        have ne : ¬ (some ((its.getD i r_it0).1 * 64 + 13) = some 1293) := fun q => c20 (by have := Option.some.inj q; omega)
        obtain ⟨s', p1, p2, p3, p4, p5, p6⟩ := y_addto (X_rn.of (S := S) ⟨r1, r2, r3, r4, r5, r6, r7⟩ M.1.2.2.2.1 M.1.2.2.2.2.2.2) (at' := g * 4 + i) (k := (its.getD i r_it0).1) (by omega) (by omega) (g := ((gs.getD g r_gp0).1 i, (gs.getD g r_gp0).2 i)) (c := c) (N := N) (by rw [o1]; exact b1) (by rw [o2]; exact b2) b3 b4 hN (r_val env (its.getD i r_it0).2)
        rw [e2, if_neg ne, if_neg (Option.some_ne_none _), t1, x_nn, v, x_c, x_nn, p1, x_c] at st
        have fd : r_fd its env (gs.getD g r_gp0) i = r_add (its.getD i r_it0).1 ((gs.getD g r_gp0).1 i, (gs.getD g r_gp0).2 i) (r_val env (its.getD i r_it0).2) := by unfold r_fd; rw [if_neg c20, if_neg (by omega)]
        exact ⟨s', st, pack s' _ (M.trans p2) (p3.trans hI) p4 p5 (by rw [fd]) (by rw [fd]; exact p6)⟩
theorem y_gat {w : g_St} {S : Nat} {so : Nat → Option Nat} (hso : ∀ k r, so k = some r → r % 64 = 9) {its : List r_It} (rn : X_rn w S) (hit : X_it w so S its) {N al : Nat} (hN : N < 2 ^ 30) (hal : g_I w 644 4 = Int32.ofNat al) (al48 : al ≤ 48) {a : List r_Gp × Bool} (hg : X_gr w its.length N a.1) (hf : g_I w 1028 4 = z_g a.2) {iv : Nat → Int64} (hv : ∀ i, i < its.length → (its.getD i r_it0).1 = 0 → g_AL w 149 i = iv i) {env : Nat → Nat → Int64} {D : Nat → Nat → Prop} (hu : r_uit D its) (hb : ∀ k j, D k j → X_bd w so env k (D k)) : ∃ w', f_Ru_gather (some 4) w = some ((), w') ∧ X_gf w w' ∧ X_gr w' its.length (N + 1) (r_gat its al env iv a).1 ∧ g_I w' 1028 4 = z_g (r_gat its al env iv a).2 := by
  obtain ⟨w1, b1, b2⟩ := y_fg rn hit hg hal al48 hv
  unfold f_Ru_gather r_gat
  have nn : ∀ k : Nat, k < 2 ^ 31 → (0 : Int32) ≤ Int32.ofNat k := fun k hk => by rw [show (0 : Int32) = Int32.ofNat 0 from rfl, x_le (by omega) (by omega)]; omega
  have a2 := hg.2.1
  cases hz : r_gfd its iv a.1 with
  | some g =>
    rw [hz] at b2
    obtain ⟨c1, c2⟩ := b2
    have gl : g < a.1.length := by unfold r_gfd at hz; have := (z_ff_some hz).2.1; omega
    obtain ⟨w', d1, d2, d3, d4⟩ := y_g12 hso rn hit hN hg gl hu hb
    refine ⟨w', ?_, d2, d4, by rw [d3]; exact hf⟩
    rw [x_nn, c1, c2, x_c, if_pos (nn g (by omega))]
    exact d1
  | none =>
    rw [hz] at b2
    simp only [] at b2 ⊢
    by_cases lt : a.1.length < al
    · rw [if_pos lt] at b2 ⊢
      obtain ⟨c1, c2, c3⟩ := b2
      have gl : a.1.length < (a.1 ++ [r_g1 its iv]).length := by rw [List.length_append, List.length_singleton]; omega
      obtain ⟨w', d1, d2, d3, d4⟩ := y_g12 hso (X_rn.of rn b1.1.2.2.2.1 b1.1.2.2.2.2.2.2) (hit.ag b1.ag) hN c3 gl hu (fun k j hk => (hb k j hk).gf (fun r hr => hso k r hr) b1)
      have e : (a.1 ++ [r_g1 its iv]).set a.1.length (r_fold its env ((a.1 ++ [r_g1 its iv]).getD a.1.length r_gp0)) = a.1 ++ [r_fold its env (r_g1 its iv)] := by
        rw [z_getD_app, if_neg (by omega), if_pos rfl, List.set_append_right _ _ (by omega), Nat.sub_self]
        rfl
      rw [e] at d4
      refine ⟨w', ?_, b1.trans d2, d4, by rw [d3, c2]; exact hf⟩
      rw [x_nn, c1, x_c, if_pos (nn _ (by omega))]
      exact d1
    · rw [if_neg lt] at b2 ⊢
      obtain ⟨c1, c2⟩ := b2
      refine ⟨w1, ?_, b1, ?_, by rw [c2, x_Iss]; rfl⟩
      · rw [x_nn, c1, x_c, if_neg (by decide)]
      · obtain ⟨q1, q2, q3⟩ := hg
        rw [c2]
        refine ⟨by rw [x_Ik (by decide)]; exact q1, q2, fun g hg i hi => ?_⟩
        obtain ⟨p1, c, p2, p3, p4⟩ := q3 g hg i hi
        exact ⟨p1, c, p2, by omega, p4⟩
