/-! RUNNING (engine): a row comes to a part, whole -/
/-- a row comes: the rows, how many there are in all, whether there are too many -/
def r_put (X : r_Pt) (al : Nat) (a : List r_Row × Nat × Bool) (b : r_Row) : List r_Row × Nat × Bool := if (X.2.2.2 && a.1.any fun r => r_same X r b) = true then a else if a.2.1 < al then (a.1 ++ [b], a.2.1 + 1, a.2.2) else (a.1, a.2.1, true)
/-- the state of a part that rows come to -/
def X_ac (w : g_St) (p : Nat) (X : r_Pt) (al : Nat) (a : List r_Row × Nat × Bool) : Prop := X_rl w p (r_tr X) X.1 a.1 ∧ g_I w 708 4 = Int32.ofNat a.2.1 ∧ g_I w 644 4 = Int32.ofNat al ∧ al ≤ 48 ∧ a.1.length ≤ a.2.1 ∧ a.2.1 ≤ 48 ∧ g_I w 1092 4 = z_g a.2.2
theorem z_getD_app {α : Type} {l : List α} {b d : α} {i : Nat} : (l ++ [b]).getD i d = if i < l.length then l.getD i d else if i = l.length then b else d := by
  rw [List.getD_eq_getElem?_getD]
  by_cases h : i < l.length
  · rw [if_pos h, List.getElem?_append_left h, ← List.getD_eq_getElem?_getD]
  · rw [if_neg h, List.getElem?_append_right (by omega)]
    by_cases e : i = l.length
    · rw [if_pos e, e, Nat.sub_self]; rfl
    · rw [if_neg e, List.getElem?_eq_none (by simp; omega)]; rfl
/-- where the row's parent stands -/
theorem y_par {w : g_St} {S A : Nat} {so : Nat → Option Nat} {ms : List (Nat ⊕ Nat)} {ow : Nat} (h1 : g_R w 772 4 = some S) (h2 : g_I w 456 S = Int32.ofNat ms.length) (h3 : ms.length ≤ 3) (h4 : g_R w 392 S = some A) (h5 : g_ln w A = 3) (h6 : g_I w 8 S = Int32.ofNat ow) (how : ow ≤ 4) (h7 : ∀ m, m < ms.length → ∃ r, so m = some r ∧ g_AR w A m = some r ∧ g_I w 393 r = z_ppE (some (ms.getD m (.inl 0))) ∧ (∀ k, ms.getD m (.inl 0) = .inl k → k < 5)) : f_Ru_parentRow (some 4) w = some (match z_ff (fun m => decide (ms.getD m (.inl 0) = .inl ow)) ms.length 0 with | none => -1 | some m => match so m with | none => -1 | some r => g_I w 713 r, w) := by
  have key : ∀ (d m f : Nat), m + d = ms.length → d < f → f_Ru_parentRow_2 f (some 4) (Int32.ofNat m) w = some (match z_ff (fun m => decide (ms.getD m (.inl 0) = .inl ow)) d m with | none => -1 | some m => match so m with | none => -1 | some r => g_I w 713 r, w) := by
    intro d
    induction d with
    | zero =>
      intro m f e1 e2
      obtain ⟨f, rfl⟩ : ∃ m, f = m + 1 := ⟨f - 1, by omega⟩
      rw [f_Ru_parentRow_2, x_gR, h1, x_gI, h2, if_pos (by rw [x_le (by omega) (by omega)]; omega)]
      rfl
    | succ d ih =>
      intro m f e1 e2
      obtain ⟨f, rfl⟩ : ∃ m, f = m + 1 := ⟨f - 1, by omega⟩
      obtain ⟨r, s1, s2, s3, s4⟩ := h7 m (by omega)
      rw [f_Ru_parentRow_2, x_gR, h1, x_gI, h2, if_neg (by rw [x_le (by omega) (by omega)]; omega), x_gR, h1, x_gR, h4, x_aR (by omega) (by omega), s2, x_gI, s3, x_gR, h1, x_gI, h6, z_ff]
      by_cases e : ms.getD m (.inl 0) = .inl ow
      · rw [if_pos (show z_ppE (some (ms.getD m (.inl 0))) = Int32.ofNat ow from by rw [e]; rfl), if_pos (decide_eq_true e), x_gR, h1, x_gR, h4, x_aR (by omega) (by omega), s2, x_gI]
        simp only [s1]
      · have ne : ¬ z_ppE (some (ms.getD m (.inl 0))) = Int32.ofNat ow := by
          intro q
          cases hm : ms.getD m (.inl 0) with
          | inl k =>
            rw [hm] at q e
            have q' : Int32.ofNat k = Int32.ofNat ow := q
            have := s4 k hm
            rw [x_eq (by omega) (by omega)] at q'
            exact e (by rw [q'])
          | inr k =>
            rw [hm] at q
            have q' : (-1 : Int32) = Int32.ofNat ow := q
            exact z_oc_n (by omega) q'.symm
        rw [if_neg ne, if_neg (by rw [decide_eq_true_eq]; exact e), x_p1]
        exact ih (m + 1) f (by omega) (by omega)
  exact key ms.length 0 200000 (by omega) (by omega)
/-- behind the dropping of equal rows -/
theorem y_c123 {w w1 : g_St} {p : Nat} {X : r_Pt} {al : Nat} {a : List r_Row × Nat × Bool} {b : r_Row} (hp : p < 5) (w3 : X.1 ≤ 3) (H : X_ac w p X al a) (M : X_fm p a.1.length w w1) (hI : ∀ k c, g_I w1 k c = g_I w k c) (htg : g_R w1 900 4 = some (64 * p + 5)) (hb1 : ∀ j, j < X.1 → g_AL w1 (277 + 64 * p) (a.1.length * 4 + j) = r_hd b j) (hb2 : r_tr X = true → X_ch w1 p (a.1.length + 1) X.1 b (Int32.ofNat a.1.length) ∧ g_AI w1 (340 + 128 * p) a.1.length = Int32.ofNat b.length ∧ b.length ≤ 100) : ∃ w', f_Ru_come_123 (some 4) w1 = some ((), w') ∧ X_fm p a.1.length w w' ∧ X_ac w' p X al (if a.2.1 < al then (a.1 ++ [b], a.2.1 + 1, a.2.2) else (a.1, a.2.1, true)) := by
  obtain ⟨a1, a2, a3, a4, a5, a6, a7⟩ := H
  have ne4 : (4 : Nat) ≠ 64 * p + 5 := by omega
  have R1 : X_rl w1 p (r_tr X) X.1 a.1 := a1.fm w3 M (by rw [hI]; exact a1.1)
  unfold f_Ru_come_123
  rw [x_gI, hI, a2, x_gI, hI, a3]
  by_cases lt : a.2.1 < al
  · rw [if_pos (by rw [x_lt (by omega) (by omega)]; exact lt), x_gR, htg, x_gI, hI, a1.1, x_pI, x_gI, x_Ia (by omega), hI, a2, x_pI, x_p1, x_p1, if_pos lt]
    refine ⟨_, rfl, (M.pI (Or.inl ⟨rfl, rfl⟩) _).pI (Or.inr ⟨rfl, Or.inl rfl⟩) _, ⟨?_, ?_, ?_, ?_⟩, x_Iss _ _ _ _, ?_, a4, ?_, by show a.2.1 + 1 ≤ 48; omega, ?_⟩
    · rw [x_Ia (by omega), x_Iss, List.length_append, List.length_singleton]
    · rw [List.length_append, List.length_singleton]; omega
    · intro i hi j hj
      rw [List.length_append, List.length_singleton] at hi
      rw [z_getD_app]
      show g_AL w1 _ _ = _
      by_cases e : i < a.1.length
      · rw [if_pos e]; exact R1.2.2.1 i e j hj
      · have ei : i = a.1.length := by omega
        rw [if_neg e, if_pos ei, ei]; exact hb1 j hj
    · intro ht i hi
      rw [List.length_append, List.length_singleton] at hi ⊢
      rw [z_getD_app]
      by_cases e : i < a.1.length
      · rw [if_pos e]
        obtain ⟨c1, c2, c3⟩ := R1.2.2.2 ht i e
        exact ⟨X_ch.fr (w := w1) (w' := g_setI (g_setI w1 261 (64 * p + 5) (Int32.ofNat (a.1.length + 1))) 708 4 (Int32.ofNat (a.2.1 + 1))) (fun _ _ _ _ => rfl) (fun _ _ => rfl) w3 (c1.mono (by omega)), c2, c3⟩
      · have ei : i = a.1.length := by omega
        rw [if_neg e, if_pos ei, ei]
        obtain ⟨c1, c2, c3⟩ := hb2 ht
        exact ⟨X_ch.fr (w := w1) (w' := g_setI (g_setI w1 261 (64 * p + 5) (Int32.ofNat (a.1.length + 1))) 708 4 (Int32.ofNat (a.2.1 + 1))) (fun _ _ _ _ => rfl) (fun _ _ => rfl) w3 c1, c2, c3⟩
    · rw [x_Ik (by decide), x_Ia (by omega), hI]; exact a3
    · show (a.1 ++ [b]).length ≤ a.2.1 + 1
      rw [List.length_append, List.length_singleton]; omega
    · rw [x_Ik (by decide), x_Ia (by omega), hI]; exact a7
  · rw [if_neg (by rw [x_lt (by omega) (by omega)]; exact lt), show g_pZ w1 1092 (some 4) 1 = g_pZ w1 1092 (some 4) (z_g true) from rfl, x_pZ, if_neg lt]
    refine ⟨_, rfl, M.pI (Or.inr ⟨rfl, Or.inr rfl⟩) _, ?_, by rw [x_Ik (by decide), hI]; exact a2, by rw [x_Ik (by decide), hI]; exact a3, a4, a5, a6, x_Iss _ _ _ _⟩
    exact R1.fm w3 (X_fm.re.pI (Or.inr ⟨rfl, Or.inr rfl⟩) _) (by rw [x_Ia (by omega), hI]; exact a1.1)
/-- a row comes to a part -/
theorem y_come {w : g_St} {p P S : Nat} {X : r_Pt} (hp : p < 5) (hX : X_pt w P X) (F : X_fx w p) (h1 : g_R w 772 4 = some S) (hS : S % 64 = 8) (h2 : g_I w 264 S = Int32.ofNat X.1) (h3 : g_R w 836 4 = some P) (h4 : g_R w 900 4 = some (64 * p + 5)) (h5 : g_R w 260 4 = some 149) (h6 : g_ln w 149 = 4) {vals : Nat → Int64} (hv : ∀ j, j < X.1 → g_AL w 149 j = vals j) {al : Nat} {a : List r_Row × Nat × Bool} (H : X_ac w p X al a) {par : r_Row} (hpar : r_tr X = true → ∃ pi, (∀ w1, X_fm p a.1.length w w1 → (∀ k c, g_I w1 k c = g_I w k c) → f_Ru_parentRow (some 4) w1 = some (pi, w1)) ∧ X_ch w p a.1.length X.1 par pi ∧ (∀ k, k < a.1.length → pi = Int32.ofNat k → g_AI w (340 + 128 * p) k = Int32.ofNat par.length) ∧ par.length ≤ 99) : ∃ w', f_Ru_come (some 4) w = some ((), w') ∧ X_fm p a.1.length w w' ∧ X_ac w' p X al (r_put X al a (r_nrow X vals par)) := by
  have H' := H
  obtain ⟨a1, a2, a3, a4, a5, a6, a7⟩ := H
  obtain ⟨p1, ⟨w3, c1, c2⟩, p3, p4, p5, p6, p7, p8, p9⟩ := hX
  have hX' : X_pt w P X := ⟨p1, ⟨w3, c1, c2⟩, p3, p4, p5, p6, p7, p8, p9⟩
  have F' := F
  obtain ⟨f1, f2, f3, f4, f5, f6⟩ := F
  have l48 := a1.2.1
  -- what stands behind the copying
  have e98 : ∀ w1 b, X_fm p a.1.length w w1 → (∀ k c, g_I w1 k c = g_I w k c) → (∀ j, j < X.1 → g_AL w1 (277 + 64 * p) (a.1.length * 4 + j) = r_hd b j) → (r_tr X = true → X_ch w1 p (a.1.length + 1) X.1 b (Int32.ofNat a.1.length) ∧ g_AI w1 (340 + 128 * p) a.1.length = Int32.ofNat b.length ∧ b.length ≤ 100) → ∃ w', f_Ru_come_98 (some 4) w1 = some ((), w') ∧ X_fm p a.1.length w w' ∧ X_ac w' p X al (r_put X al a b) := by
    intro w1 b M hI hb1 hb2
    have R1 : X_rl w1 p (r_tr X) X.1 a.1 := a1.fm w3 M (by rw [hI]; exact a1.1)
    have R4 : ∀ k, g_R w1 k 4 = g_R w k 4 := fun k => by rw [M.1.2.2.2.1]
    obtain ⟨w', g1, g2, g3⟩ := y_c123 hp w3 H' M hI (by rw [R4]; exact h4) hb1 hb2
    have he := y_heq (hX'.ag M.ag) (M.fx F') R1 hb1 (fun ht => ⟨(hb2 ht).1, (hb2 ht).2.1, by have := (hb2 ht).2.2; omega⟩)
    unfold f_Ru_come_98 r_put
    rw [x_gR, R4, h3, x_gI, hI, p9, x_gR, R4, h4, x_gR, R4, h3, x_nn, he, x_c]
    have stay : ∃ w', some ((), w1) = some ((), w') ∧ X_fm p a.1.length w w' ∧ X_ac w' p X al a := ⟨w1, rfl, M, R1, by rw [hI]; exact a2, by rw [hI]; exact a3, a4, a5, a6, by rw [hI]; exact a7⟩
    cases hu : X.2.2.2 with
    | false =>
      rw [if_pos (show z_g false = 0 from rfl), Bool.false_and, if_neg (by decide)]
      exact ⟨w', g1, g2, g3⟩
    | true =>
      rw [if_neg (show ¬ z_g true = 0 from by decide), Bool.true_and]
      cases hs : (a.1.any fun r => r_same X r b) with
      | true => rw [if_neg (show ¬ z_g true = 0 from by decide), if_pos rfl]; exact stay
      | false => rw [if_pos (show z_g false = 0 from rfl), if_neg (by decide)]; exact ⟨w', g1, g2, g3⟩
  -- copying
  unfold f_Ru_come
  rw [x_gR, h4, x_gI, a1.1, show (4 : Int32) = Int32.ofNat 4 from rfl, x_mul]
  refine z_cl X.1 (fun f i s => f_Ru_come_12 f (some 4) (Int32.ofNat (a.1.length * 4)) (Int32.ofNat i) s) (fun s => some ((), s)) (fun i s => X_fm p a.1.length w s ∧ (∀ k c, g_I s k c = g_I w k c) ∧ (∀ j, j < i → g_AL s (277 + 64 * p) (a.1.length * 4 + j) = vals j) ∧ ∀ k, g_AI s k = g_AI w k) (fun w' => X_fm p a.1.length w w' ∧ X_ac w' p X al (r_put X al a (r_nrow X vals par))) ?_ ?_ X.1 0 w 200000 (by omega) (by omega) ⟨X_fm.re, fun _ _ => rfl, fun j hj => by omega, fun _ => rfl⟩
  · rintro f s ⟨M, hI, hV, hA⟩
    have R4 : ∀ k c, g_R s k c = g_R w k c := fun k c => by rw [M.1.2.2.2.1]
    have Fs := M.fx F'
    have Xs := hX'.ag M.ag
    show ∃ u', f_Ru_come_12 (f + 1) (some 4) _ (Int32.ofNat X.1) s = some ((), u') ∧ _
    rw [f_Ru_come_12, x_gR, R4, h1, x_gI, hI, h2, if_pos (by rw [x_le (by omega) (by omega)]; exact Nat.le_refl _), x_gR, R4, h3, if_neg (Option.some_ne_none _), x_gR, R4, h3, x_gI, hI, p4, x_gR, R4, h3, x_gI, hI, p5]
    have e80 : r_tr X = true → ∃ w', f_Ru_come_80 (some 4) s = some ((), w') ∧ X_fm p a.1.length w w' ∧ X_ac w' p X al (r_put X al a (r_nrow X vals par)) := by
      intro ht
      obtain ⟨pi, q1, q2, q3, q4⟩ := hpar ht
      have ch : X_ch s p a.1.length X.1 par pi := q2.fr (fun k j hk hj => M.2.2.1 _ _ (fun q => by have := q.2; omega) (by omega)) (fun k hk => by rw [hA]) w3
      obtain ⟨w2, g1, g2, g3, g4, g5, g6⟩ := y_grow Xs Fs (n := a.1.length) (by omega) (by rw [hI]; exact a1.1) ch (fun k hk e => by rw [hA]; exact q3 k hk e) q4 hV
      have M2 := M.trans g2 (Nat.le_refl _)
      have I2 : ∀ k c, g_I w2 k c = g_I w k c := fun k c => by rw [g3, hI]
      have eb : r_nrow X vals par = (fun j => if j = 3 then r_mk X vals par else vals j) :: par := by unfold r_nrow; rw [if_pos ht]
      obtain ⟨w', k1, k2, k3⟩ := e98 w2 (r_nrow X vals par) M2 I2 (fun j hj => by rw [g4 j (Or.inl hj), eb]; rfl) (fun _ => by
        rw [eb]
        refine ⟨⟨a.1.length, by omega, rfl, g4, ?_⟩, by rw [g6, List.length_cons], by rw [List.length_cons]; omega⟩
        rw [g5]
        exact (ch.fr (fun k j hk hj => g2.2.2.1 _ _ (fun q => by have := q.2; omega) (by omega)) (fun k hk => g2.2.2.2 _ _ (fun q => by have := q.2; omega)) w3).mono (by omega))
      refine ⟨w', ?_, k2, k3⟩
      unfold f_Ru_come_80
      rw [x_gR, R4, h4, x_nn, q1 s M hI, x_c, x_gR, R4, h3, x_gI, hI, p8, x_nn, g1, x_c]
      exact k1
    cases hs : X.2.1.isSome with
    | true =>
      rw [if_neg (show ¬ z_g true = 0 from by decide)]
      exact e80 (by unfold r_tr; rw [hs]; rfl)
    | false =>
      rw [if_pos (show z_g false = 0 from rfl)]
      cases hc : X.2.2.1.isSome with
      | true =>
        rw [if_neg (show ¬ z_g true = 0 from by decide)]
        exact e80 (by unfold r_tr; rw [hs, hc]; rfl)
      | false =>
        have ht : r_tr X = false := by unfold r_tr; rw [hs, hc]; rfl
        have eb : r_nrow X vals par = [vals] := by unfold r_nrow; rw [ht, if_neg (by decide)]
        rw [if_pos (show z_g false = 0 from rfl), eb]
        exact e98 s [vals] M hI (fun j hj => hV j hj) (fun h => by rw [ht] at h; cases h)
  · rintro f i s hi ⟨M, hI, hV, hA⟩
    have R4 : ∀ k c, g_R s k c = g_R w k c := fun k c => by rw [M.1.2.2.2.1]
    have N4 : ∀ c, g_ln s c = g_ln w c := fun c => by rw [M.1.2.2.2.2.2.2]
    refine ⟨g_setAL s (277 + 64 * p) (a.1.length * 4 + i) (vals i), ?_, M.sL (by omega) _, hI, fun j hj => ?_, hA⟩
    · show f_Ru_come_12 (f + 1) (some 4) _ (Int32.ofNat i) s = f_Ru_come_12 f (some 4) _ (Int32.ofNat (i + 1)) _
      rw [f_Ru_come_12, x_gR, R4, h1, x_gI, hI, h2, if_neg (by rw [x_le (by omega) (by omega)]; omega), x_gR, R4, h4, x_gR, R4, f1, x_gR, R4, h5, x_aL (by omega) (by rw [N4]; omega), M.2.2.1 149 i (fun q => by have := q.1; omega) (by omega), hv i hi, x_add, x_sL (by omega) (by rw [N4]; omega), x_p1]
    · rw [x_AL_AL]
      by_cases e : j = i
      · rw [if_pos ⟨rfl, by rw [e]⟩, e]
      · rw [if_neg (fun q => by have := q.2; omega)]
        exact hV j (by omega)
