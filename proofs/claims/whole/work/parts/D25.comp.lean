/-! RUNNING (engine): a component, round by round -/
def r_nst (cp : Nat → Nat) (num : Nat) (pr : Nat → List r_Row) (st : Nat → Nat) : Nat → Nat := fun q => if cp q = num then (pr q).length else st q
def r_nbf (cp : Nat → Nat) (num : Nat) (st bf : Nat → Nat) : Nat → Nat := fun q => if cp q = num then st q else bf q
def r_comp (one : (Nat → Nat) → (Nat → Nat) → Nat × Nat → r_Rs → r_Rs ⊕ Nat) (cp ns : Nat → Nat) (nm : Nat → Nat → Bool) (np num : Nat) (rc : Bool) : Nat → Nat → r_Rs → (Nat → Nat) → (Nat → Nat) → List Nat → (r_Rs × (Nat → Nat) × (Nat → Nat) × List Nat) ⊕ Nat
  | 0, _, _, _, _, _ => .inr 3
  | f + 1, rd, s, st, bf, tl => match r_seq (one (r_nst cp num s.1 st) (r_nbf cp num st bf)) (r_jobs cp ns nm num (decide (rd = 1)) (List.range np)) s with
    | .inr c => .inr c
    | .inl s' => if rc = false ∨ s'.2 = s.2 then .inl (s', r_nst cp num s.1 st, r_nbf cp num st bf, tl ++ [s'.2 - s.2]) else r_comp one cp ns nm np num rc f (rd + 1) s' (r_nst cp num s.1 st) (r_nbf cp num st bf) (tl ++ [s'.2 - s.2])
theorem z_put_fold {β : Type} (X : r_Pt) (al : Nat) (g : β → r_Row) (L : List β) : ∀ a : List r_Row × Nat × Bool, a.2.1 ≤ (L.foldl (fun a e => r_put X al a (g e)) a).2.1 := by
  induction L with
  | nil => intro a; exact Nat.le_refl _
  | cons e L ih => intro a; rw [List.foldl_cons]; exact Nat.le_trans r_put_tot (ih _)
theorem r_one_tot {Xs : Nat → r_Pt} {cp : Nat → Nat} {ua : Nat → Bool} {tbl : Nat → List (Nat → Int64)} {al : Nat} {st bf : Nat → Nat} {y : r_Sel} {q : Nat} {s s' : r_Rs} (h : r_one Xs cp ua tbl al st bf y q s = .inl s') : s.2 ≤ s'.2 := by
  unfold r_one at h
  generalize hw : r_work y.1 al (fun ch v a => r_put (Xs q) al a (r_nrow (Xs q) v (r_par y.2.1 q ch))) (fun a => a.2.2) (r_cbs cp Xs ua s.1 tbl st bf (some q) y.2.1 y.2.2.1 y.2.2.2.1) (s.1 q, s.2, false) = rr at h
  cases rr with
  | inr c => cases h
  | inl a =>
    cases h
    show s.2 ≤ a.2.1
    unfold r_work at hw
    split at hw
    · cases hw
    · split at hw
      · split at hw
        · cases hw
        · cases hw
          exact z_put_fold (Xs q) al (fun e => r_nrow (Xs q) (r_iv y.1 (r_en e)) (r_par y.2.1 q e)) _ (s.1 q, s.2, false)
      · split at hw
        · cases hw
        · split at hw
          · cases hw
          · split at hw
            · cases hw
            · cases hw
              exact z_put_fold (Xs q) al (fun g => r_nrow (Xs q) (r_gv y.1 g) (r_par y.2.1 q (fun _ => []))) _ (s.1 q, s.2, false)
theorem r_seq_tot {one : Nat × Nat → r_Rs → r_Rs ⊕ Nat} (h : ∀ j s s', one j s = .inl s' → s.2 ≤ s'.2) : ∀ (l : List (Nat × Nat)) (s s' : r_Rs), r_seq one l s = .inl s' → s.2 ≤ s'.2 := by
  intro l
  induction l with
  | nil => intro s s' e; cases e; exact Nat.le_refl _
  | cons j l ih =>
    intro s s' e
    rw [r_seq] at e
    cases ho : one j s with
    | inr c => rw [ho] at e; cases e
    | inl s1 => rw [ho] at e; exact Nat.le_trans (h j s s1 ho) (ih s1 s' e)
section
variable {w : g_St} {Q np nt : Nat} {P cp tw ca : Nat → Nat} {Xs : Nat → r_Pt} {ua : Nat → Bool} {tbl : Nat → List (Nat → Int64)} {pr : Nat → List r_Row} {st bf : Nat → Nat} {tot : Nat} {num : Nat}
theorem y_bround (H : X_sq w Q P np Xs cp ua nt tbl tw ca) (Y : X_dy w np Xs pr st bf tot) (hnum : num ≤ 4) {rc : Bool} (hrc : ∀ q, q < np → cp q = num → g_I w 967 (P q) = z_g rc) (hex : ∃ q, q < np ∧ cp q = num) : ∃ w', f_Ru_beginRound (some 4) (Int32.ofNat num) w = some (z_g rc, w') ∧ X_rf w w' ∧ X_dy w' np Xs pr (r_nst cp num pr st) (r_nbf cp num st bf) tot ∧ g_I w' 261 261 = g_I w 261 261 ∧ g_AI w' 84 = g_AI w 84 := by
  have H' := H
  obtain ⟨⟨a1, a2, a3, a4, PA, a5, a6, a7, a8⟩, ⟨b1, b2, b3⟩, -⟩ := H
  have lp := z_cl np (fun f i (s : g_St × Bool) => f_Ru_beginRound_4 f (some 4) (Int32.ofNat num) (z_g s.2) (Int32.ofNat i) s.1) (fun s : g_St × Bool => some (z_g s.2, s.1)) (fun i s => X_rf w s.1 ∧ g_AL s.1 = g_AL w ∧ g_AI s.1 = g_AI w ∧ (∀ k a, k ≠ 325 → k ≠ 389 → g_I s.1 k a = g_I w k a) ∧ (∀ q, q < np → g_I s.1 325 (64 * q + 5) = Int32.ofNat (if q < i then r_nst cp num pr st q else st q) ∧ g_I s.1 389 (64 * q + 5) = Int32.ofNat (if q < i then r_nbf cp num st bf q else bf q)) ∧ ((∃ q, q < i ∧ cp q = num) → s.2 = rc)) (fun s => X_rf w s.1 ∧ g_AL s.1 = g_AL w ∧ g_AI s.1 = g_AI w ∧ (∀ k a, k ≠ 325 → k ≠ 389 → g_I s.1 k a = g_I w k a) ∧ (∀ q, q < np → g_I s.1 325 (64 * q + 5) = Int32.ofNat (r_nst cp num pr st q) ∧ g_I s.1 389 (64 * q + 5) = Int32.ofNat (r_nbf cp num st bf q)) ∧ s.2 = rc) (by
    rintro f ⟨s, b⟩ ⟨h1, h2, h3, h4, h5, h6⟩
    refine ⟨(s, b), ?_, h1, h2, h3, h4, fun q hq => ?_, h6 hex⟩
    · show f_Ru_beginRound_4 (f + 1) (some 4) (Int32.ofNat num) (z_g b) (Int32.ofNat np) s = some (z_g b, s)
      rw [f_Ru_beginRound_4, x_gR, h1.2.1 _ _ (by decide) (by decide), a1, x_gI, h4 _ _ (by decide) (by decide), a3, if_pos (by rw [x_le (by omega) (by omega)]; exact Nat.le_refl _)]
      cases b <;> rfl
    · have := h5 q hq
      rw [if_pos hq, if_pos hq] at this
      exact this) (by
    rintro f i ⟨s, b⟩ hi ⟨h1, h2, h3, h4, h5, h6⟩
    obtain ⟨d1, d2, d3, d4, d5⟩ := a8 i hi
    have p7 := d2.1
    have R : ∀ k a, k ≠ 521 → k ≠ 772 → k ≠ 836 → k ≠ 900 → g_R s k a = g_R w k a := fun k a x1 x2 x3 x4 => h1.2.1 k a (fun q => x1 q.1) (fun q => by have := q.2; omega)
    have A : ∀ a j, g_AR s a j = g_AR w a j := fun a j => by rw [h1.1.2.2.2.2.1]
    have Ln : ∀ a, g_ln s a = g_ln w a := fun a => by rw [h1.1.2.2.2.2.2]
    have st1 : ∀ F : g_St → Option Nat → Option (Int32 × g_St), (g_gR s 452 (some 4) fun p3 => g_gR s 6 p3 fun p4 => g_aR s p4 (Int32.ofNat i) fun p5 => F s p5) = F s (some (P i)) := fun F => by
      rw [x_gR, R _ _ (by decide) (by decide) (by decide) (by decide), a1, x_gR, R _ _ (by decide) (by decide) (by decide) (by decide), a5, x_aR (by omega) (by rw [Ln]; omega), A, d1]
    show ∃ v : g_St × Bool, f_Ru_beginRound_4 (f + 1) (some 4) (Int32.ofNat num) (z_g b) (Int32.ofNat i) s = f_Ru_beginRound_4 f (some 4) (Int32.ofNat num) (z_g v.2) (Int32.ofNat (i + 1)) v.1 ∧ _
    rw [f_Ru_beginRound_4, x_gR, R _ _ (by decide) (by decide) (by decide) (by decide), a1, x_gI, h4 _ _ (by decide) (by decide), a3, if_neg (by rw [x_le (by omega) (by omega)]; omega), x_gR, R _ _ (by decide) (by decide) (by decide) (by decide), a1, x_gR, R _ _ (by decide) (by decide) (by decide) (by decide), a5, x_aR (by omega) (by rw [Ln]; omega), A, d1, x_gI, h4 _ _ (by decide) (by decide), d3]
    by_cases c : cp i = num
    · obtain ⟨y1, y2⟩ := h5 i hi
      rw [if_neg (Nat.lt_irrefl _)] at y1 y2
      have i261 : g_I s 261 (64 * i + 5) = Int32.ofNat (pr i).length := by rw [h4 _ _ (by decide) (by decide)]; exact (Y.1 i hi).1.1
      obtain ⟨s', es⟩ : ∃ s', s' = g_setI (g_setI s 389 (64 * i + 5) (Int32.ofNat (st i))) 325 (64 * i + 5) (Int32.ofNat (pr i).length) := ⟨_, rfl⟩
      have br : f_Rl_beginRound (some (64 * i + 5)) s = some ((), s') := by
        unfold f_Rl_beginRound
        rw [x_gI, y1, x_pI, x_gI, x_Ik (by decide), i261, x_pI, es]
      have f1 : X_rf w s' := by rw [es]; exact (h1.pI (Or.inr (Or.inr ⟨by omega, by omega, Or.inr (Or.inr rfl)⟩)) _).pI (Or.inr (Or.inr ⟨by omega, by omega, Or.inr (Or.inl rfl)⟩)) _
      have Is : ∀ k a, k ≠ 325 → k ≠ 389 → g_I s' k a = g_I w k a := fun k a x1 x2 => by rw [es, x_Ik x1, x_Ik x2]; exact h4 k a x1 x2
      rw [if_pos (by rw [c]), x_gR, R _ _ (by decide) (by decide) (by decide) (by decide), b1, x_aR (by omega) (by rw [Ln]; omega), A, (b3 i (by omega)).1, x_nn, br, x_c, x_gR, f1.2.1 _ _ (by decide) (by decide), a1, x_gR, f1.2.1 _ _ (fun q => by have := q.1; omega) (fun q => by have := q.2; omega), a5, x_aR (by omega) (by rw [f1.1.2.2.2.2.2]; omega), f1.1.2.2.2.2.1, d1, x_gI, Is _ _ (by decide) (by decide), hrc i hi c, x_p1]
      refine ⟨(s', rc), rfl, f1, by rw [es]; exact h2, by rw [es]; exact h3, Is, fun q hq => ?_, fun _ => rfl⟩
      show g_I s' 325 _ = _ ∧ g_I s' 389 _ = _
      by_cases e : q = i
      · rw [e, if_pos (Nat.lt_succ_self _), if_pos (Nat.lt_succ_self _), es, x_Iss, x_Ik (by decide), x_Iss]
        unfold r_nst r_nbf
        rw [if_pos c, if_pos c]
        exact ⟨rfl, rfl⟩
      · obtain ⟨v1, v2⟩ := h5 q hq
        have e1 : (q < i + 1) = (q < i) := propext ⟨fun h => by omega, fun h => by omega⟩
        rw [es, x_Ia (by omega), x_Ia (by omega), x_Ia (by omega), x_Ia (by omega)]
        simp only [e1]
        exact ⟨v1, v2⟩
    · rw [if_neg (by rw [x_eq (by omega) (by omega)]; exact c), x_p1]
      refine ⟨(s, b), rfl, h1, h2, h3, h4, fun q hq => ?_, fun ⟨q, q1, q2⟩ => h6 ⟨q, by
        by_cases e : q = i
        · rw [e] at q2; exact absurd q2 c
        · omega, q2⟩⟩
      obtain ⟨v1, v2⟩ := h5 q hq
      by_cases e : q = i
      · rw [if_neg (by omega)] at v1 v2
        rw [if_pos (by omega), if_pos (by omega)]
        unfold r_nst r_nbf
        rw [e] at v1 v2 ⊢
        rw [if_neg c, if_neg c]
        exact ⟨v1, v2⟩
      · have e1 : (q < i + 1) = (q < i) := propext ⟨fun h => by omega, fun h => by omega⟩
        simp only [e1]
        exact ⟨v1, v2⟩) np 0 (w, false) 200000 (by omega) (by omega) ⟨X_rf.re, rfl, rfl, fun _ _ _ _ => rfl, fun q hq => by rw [if_neg (by omega), if_neg (by omega)]; exact ⟨(Y.1 q hq).2.1, (Y.1 q hq).2.2.1⟩, fun ⟨q, q1, _⟩ => by omega⟩
  obtain ⟨⟨s, b⟩, e, h1, h2, h3, h4, h5, h6⟩ := lp
  refine ⟨s, ?_, h1, ⟨fun q hq => ?_, by rw [h4 _ _ (by decide) (by decide)]; exact Y.2.1, Y.2.2⟩, h4 _ _ (by decide) (by decide), by rw [h3]⟩
  · have h6' : b = rc := h6
    rw [← h6']
    exact e
  · obtain ⟨l1, l2, l3, l4, l5, l6⟩ := Y.1 q hq
    obtain ⟨v1, v2⟩ := h5 q hq
    refine ⟨l1.eq (H'.w3 hq) (h4 _ _ (by decide) (by decide)) (by rw [h2]) (by rw [h3]) (by rw [h3]), v1, v2, ?_, ?_, l6⟩
    · unfold r_nst r_nbf
      by_cases c : cp q = num
      · rw [if_pos c, if_pos c]; exact l5
      · rw [if_neg c, if_neg c]; exact l4
    · unfold r_nst
      by_cases c : cp q = num
      · rw [if_pos c]; exact Nat.le_refl _
      · rw [if_neg c]; exact l5
end
