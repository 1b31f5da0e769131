/-! RUNNING (engine): combining, the end -/
section
variable {α : Type} {p n0 S n : Nat} {so : Nat → Option Nat} {w0 : g_St} {cds : List r_Cd} {lv : Nat → Nat} {rows : Nat → List r_Row} {mk : Nat → Bool} {fr : Nat → Nat} {V : Nat → Nat → Prop} {tb : (Nat ⊕ Nat) → List (Nat → Int64)} {Rel : g_St → α → Prop} {step : (Nat → r_Row) → α → α} {bad : (Nat → r_Row) → Prop} {fc fo : α → Bool} {rk : Bool} {cnt : α → Nat} {K : Nat}
theorem r_pk_c (m : Bool) (a : r_Row) (l : List r_Row) : r_pk m (a :: l) = if (m && decide (r_hd a 3 = 1)) = true then r_pk m l else a :: r_pk m l := by
  unfold r_pk
  rw [List.filter_cons]
  cases (m && decide (r_hd a 3 = 1)) <;> rfl
/-- what happens to a list of combinations -/
def X_done (Rel : g_St → α → Prop) (step : (Nat → r_Row) → α → α) (bad : (Nat → r_Row) → Prop) (fc fo : α → Bool) (rk : Bool) (p n0 : Nat) (w0 : g_St) (so : Nat → Option Nat) (l : Nat) (L : List (Nat → r_Row)) (X : Option ((Unit ⊕ Nat) × g_St)) (w : g_St) (a : α) : Prop := ((∀ e ∈ L, ¬ bad e) → ∃ w', X = some (.inl (), w') ∧ X_wf p n0 w0 w' ∧ X_pr Rel fc fo rk w' (L.foldl (fun a e => step e a) a) ∧ ∀ k r, k < l → so k = some r → g_I w' 713 r = g_I w 713 r) ∧ ((∃ e ∈ L, bad e) → ∃ w', X = some (.inr 2, g_bump w' 8 512) ∧ X_wf p n0 w0 w')
theorem y_comb (C : X_cb w0 p n0 S n so cds lv rows mk fr V tb rk) (hfl : ∀ w a, Rel w a → g_I w 1028 4 = z_g (fc a) ∧ g_I w 1092 4 = z_g (fo a)) (hmono : ∀ ch a, (fc a || fo a) = true → fc (step ch a) = fc a ∧ fo (step ch a) = fo a) (hcnt : ∀ ch a, cnt (step ch a) = cnt a + 1) (hrel : ∀ w a r x, r % 64 = 9 → Rel w a → Rel (g_setI w 713 r x) a) (hnr : rk = false → ∀ ch, (∀ k, k < n → ch k ∈ rows k) → ¬ bad ch) (htake : ∀ w a ch, X_wf p n0 w0 w → Rel w a → cnt a < K → X_eb w so rows fr n ch → (¬ bad ch → ∃ w', f_Ru_takeCombination (some 4) w = some (.inl (), w') ∧ X_wf p n0 w0 w' ∧ Rel w' (step ch a) ∧ ∀ r, r % 64 = 9 → g_I w' 713 r = g_I w 713 r) ∧ (bad ch → ∃ w', f_Ru_takeCombination (some 4) w = some (.inr 2, g_bump w' 8 512) ∧ X_wf p n0 w0 w')) : ∀ (d l f : Nat) (w : g_St) (a : α) (ch : Nat → r_Row), l + d = n → d < f → X_wf p n0 w0 w → X_pr Rel fc fo rk w a → X_eb w so rows fr l ch → cnt a + (r_cl tb cds lv (fun k => r_pk (mk k) (rows k)) d l ch).length ≤ K → X_done Rel step bad fc fo rk p n0 w0 so l (r_cl tb cds lv (fun k => r_pk (mk k) (rows k)) d l ch) (f_Ru_combine f (some 4) (Int32.ofNat l) w) w a := by
  have C' := C
  obtain ⟨⟨s8, c1, c2, c3, c4, c5, c6⟩, ⟨A, A1, A2, A3, A4⟩, c7, c8, -⟩ := C
  have cntL : ∀ (L : List (Nat → r_Row)) (a : α), cnt (L.foldl (fun a e => step e a) a) = cnt a + L.length := by
    intro L
    induction L with
    | nil => intro a; rfl
    | cons e L ih => intro a; rw [List.foldl_cons, ih, hcnt, List.length_cons]; omega
  have prI : ∀ w w' a, X_i3 so w w' → Rel w a → Rel w' a := fun w w' a h g => h (fun s => Rel s a) (fun s r x hs h1 _ => hrel s a r x h1 hs) g
  -- nothing is done once there are too many
  have early : ∀ (l : Nat) (L : List (Nat → r_Row)) (w : g_St) (a : α), (∀ e ∈ L, ∀ k, k < n → e k ∈ rows k) → X_wf p n0 w0 w → rk = false → (∃ a0, Rel w a0 ∧ fc a0 = fc a ∧ fo a0 = fo a ∧ (fc a || fo a) = true) → X_done Rel step bad fc fo rk p n0 w0 so l L (some (.inl (), w)) w a := by
    rintro l L w a hm F rk0 ⟨a0, r0, r1, r2, r3⟩
    refine ⟨fun _ => ⟨w, rfl, F, Or.inr ⟨rk0, a0, r0, ?_, ?_, ?_⟩, fun _ _ _ _ => rfl⟩, fun ⟨e, e1, e2⟩ => absurd e2 (hnr rk0 e (hm e e1))⟩
    · rw [(X_fl hmono L a r3).1]; exact r1
    · rw [(X_fl hmono L a r3).2]; exact r2
    · rw [(X_fl hmono L a r3).1, (X_fl hmono L a r3).2]; exact r3
  have pkm : ∀ k a, a ∈ r_pk (mk k) (rows k) → a ∈ rows k := fun k a h => (List.mem_filter.mp h).1
  have dis : ∀ (l f : Nat) (w : g_St) (a : α) (L : List (Nat → r_Row)), (∀ e ∈ L, ∀ k, k < n → e k ∈ rows k) → X_wf p n0 w0 w → X_pr Rel fc fo rk w a → (Rel w a → X_done Rel step bad fc fo rk p n0 w0 so l L (f_Ru_combine_27 (f_Ru_combine f) 200000 (some 4) (Int32.ofNat l) 0 w) w a) → X_done Rel step bad fc fo rk p n0 w0 so l L (f_Ru_combine (f + 1) (some 4) (Int32.ofNat l) w) w a := by
    intro l f w a L hmem F P hX
    have R : ∀ k a, g_R w k a = g_R w0 k a := fun k a => by rw [F.1.2.2.2.1]
    obtain ⟨a0, ra, fa⟩ : ∃ a0, Rel w a0 ∧ (fc a0 = fc a ∧ fo a0 = fo a) := by
      rcases P with h | ⟨-, a0, h1, h2, h3, -⟩
      · exact ⟨a, h, rfl, rfl⟩
      · exact ⟨a0, h1, h2, h3⟩
    obtain ⟨f1, f2⟩ := hfl w a0 ra
    rw [fa.1] at f1
    rw [fa.2] at f2
    rw [f_Ru_combine]
    unfold f_Ru_combine_0 f_Ru_combine_14
    rw [x_gI, f1, x_gI, f2, x_gR, R, c1, x_gI, F.ag.I (by omega) (by omega) (by decide), c6]
    generalize f_Ru_combine_27 (f_Ru_combine f) 200000 (some 4) (Int32.ofNat l) 0 w = X at hX ⊢
    have flagged : (fc a || fo a) = true → X_done Rel step bad fc fo rk p n0 w0 so l L (if z_g rk = 0 then some (Sum.inl (), w) else X) w a := by
      intro hf
      by_cases hrk : rk = false
      · rw [if_pos (by rw [hrk]; rfl)]
        exact early l L w a hmem F hrk ⟨a0, ra, fa.1, fa.2, hf⟩
      · have hrk' : rk = true := by cases rk with | true => rfl | false => exact absurd rfl hrk
        rw [if_neg (by rw [hrk']; decide)]
        rcases P with h | ⟨h, -⟩
        · exact hX h
        · exact absurd h hrk
    cases h1 : fc a with
    | true => rw [if_neg (show ¬ z_g true = 0 from by decide)]; exact flagged (by rw [h1]; rfl)
    | false =>
      rw [if_pos (show z_g false = 0 from rfl)]
      cases h2 : fo a with
      | true => rw [if_neg (show ¬ z_g true = 0 from by decide)]; exact flagged (by rw [h1, h2]; rfl)
      | false =>
        rw [if_pos (show z_g false = 0 from rfl)]
        rcases P with h | ⟨-, a0', -, -, -, h⟩
        · exact hX h
        · rw [h1, h2] at h; cases h
  have Em : ∀ (l : Nat) (w : g_St) (ch : Nat → r_Row), X_eb w so rows fr l ch → ∀ k, k < l → ch k ∈ rows k := fun l w ch E k hk => by
    obtain ⟨r, j, q1, q2, q3, q4⟩ := E k hk
    rw [← q4]
    exact z_getD_m q3
  intro d
  induction d with
  | zero =>
    intro l f w a ch e1 e2 F P E hK
    obtain ⟨f, rfl⟩ : ∃ m, f = m + 1 := ⟨f - 1, by omega⟩
    have hln : l = n := by omega
    refine dis l f w a _ (fun e he k hk => r_cl_mem pkm 0 l ch (Em l w ch E) e he k (by omega)) F P (fun hR => ?_)
    obtain ⟨w1, i1, i2⟩ := y_c27 C' (f_Ru_combine f) (l := l) (by omega) F E
    rw [i2, r_cl]
    have F1 := i1.wf F
    have R1 : ∀ k a, g_R w1 k a = g_R w0 k a := fun k a => by rw [F1.1.2.2.2.1]
    have rel1 := prI w w1 a i1 hR
    by_cases hc : ((List.range cds.length).all fun i => !decide (lv i = l) || r_cd tb (r_en ch) (cds.getD i r_cd0)) = true
    · rw [if_pos hc, if_pos hc]
      rw [r_cl, if_pos hc, List.length_singleton] at hK
      have E1 : X_eb w1 so rows fr n ch := by rw [← hln]; exact E.i3 i1
      obtain ⟨t1, t2⟩ := htake w1 a ch F1 rel1 (by omega) E1
      have st : f_Ru_combine_27 (f_Ru_combine f) 1 (some 4) (Int32.ofNat l) (Int32.ofNat cds.length) w1 = g_cT (f_Ru_takeCombination (some 4) w1) fun _ s10 => some (Sum.inl (), s10) := by
        rw [f_Ru_combine_27, x_gR, R1, c1, x_gI, F1.ag.I (by omega) (by omega) (by decide), c4, if_pos (by rw [x_le (by omega) (by omega)]; exact Nat.le_refl _), x_gR, R1, c1, x_gI, F1.ag.I (by omega) (by omega) (by decide), c2, if_neg (by rw [x_lt (by omega) (by omega)]; omega), x_nn]
      rw [st]
      refine ⟨fun nb => ?_, fun ⟨e, m1, m2⟩ => ?_⟩
      · obtain ⟨w', q1, q2, q3, q4⟩ := t1 (nb ch (List.mem_singleton.mpr rfl))
        refine ⟨w', by rw [q1, x_cTi], q2, Or.inl q3, fun k r hk hr => ?_⟩
        obtain ⟨r', h1, h2, h3⟩ := A4 k (by omega)
        rw [hr] at h1
        cases h1
        rw [q4 r h3.1, i1.at hr]
      · rw [List.mem_singleton] at m1
        rw [m1] at m2
        obtain ⟨w', q1, q2⟩ := t2 m2
        exact ⟨w', by rw [q1, x_cTr], q2⟩
    · rw [if_neg hc, if_neg hc]
      exact ⟨fun _ => ⟨w1, rfl, F1, Or.inl rel1, fun k r _ hr => i1.at hr⟩, fun ⟨e, m1, _⟩ => by cases m1⟩
  | succ d ih =>
    intro l f w a ch e1 e2 F P E hK
    obtain ⟨f, rfl⟩ : ∃ m, f = m + 1 := ⟨f - 1, by omega⟩
    have hln : l < n := by omega
    refine dis l f w a _ (fun e he k hk => r_cl_mem pkm (d + 1) l ch (Em l w ch E) e he k (by omega)) F P (fun hR => ?_)
    obtain ⟨w1, i1, i2⟩ := y_c27 C' (f_Ru_combine f) (l := l) (by omega) F E
    have F1 := i1.wf F
    have R1 : ∀ k a, g_R w1 k a = g_R w0 k a := fun k a => by rw [F1.1.2.2.2.1]
    have rel1 := prI w w1 a i1 hR
    rw [i2, r_cl]
    by_cases hc : ((List.range cds.length).all fun i => !decide (lv i = l) || r_cd tb (r_en ch) (cds.getD i r_cd0)) = true
    · rw [if_pos hc, if_pos hc]
      rw [r_cl, if_pos hc] at hK
      obtain ⟨r, s1, s2, s3⟩ := A4 l hln
      have r9 := s3.1
      have st : f_Ru_combine_27 (f_Ru_combine f) 1 (some 4) (Int32.ofNat l) (Int32.ofNat cds.length) w1 = f_Ru_combine_107 (f_Ru_combine f) 200000 (some 4) (Int32.ofNat l) (some r) (Int32.ofNat (fr l + 0)) w1 := by
        obtain ⟨-, rel, cl, x1, x2, x3, -⟩ := s3.wf F1
        rw [f_Ru_combine_27, x_gR, R1, c1, x_gI, F1.ag.I (by omega) (by omega) (by decide), c4, if_pos (by rw [x_le (by omega) (by omega)]; exact Nat.le_refl _), x_gR, R1, c1, x_gI, F1.ag.I (by omega) (by omega) (by decide), c2, if_pos (by rw [x_lt (by omega) (by omega)]; exact hln), x_gR, R1, c1, x_gR, R1, A1, x_aR (by omega) (by rw [F1.1.2.2.2.2.2.2]; omega), F1.1.2.2.2.2.2.1, s2, x_gI, x3, Nat.add_zero]
      rw [st]
      have len : fr l + (rows l).length < 60 := by
        obtain ⟨-, rel, cl, x1, x2, x3, x4, ⟨x5, -⟩, -⟩ := s3
        exact x5
      have loop : ∀ (dd j g : Nat) (w : g_St) (a : α), j + dd = (rows l).length → dd < g → X_wf p n0 w0 w → X_pr Rel fc fo rk w a → X_eb w so rows fr l ch → cnt a + ((r_pk (mk l) ((rows l).drop j)).flatMap fun b => r_cl tb cds lv (fun k => r_pk (mk k) (rows k)) d (l + 1) (r_ud ch l b)).length ≤ K → X_done Rel step bad fc fo rk p n0 w0 so l ((r_pk (mk l) ((rows l).drop j)).flatMap fun b => r_cl tb cds lv (fun k => r_pk (mk k) (rows k)) d (l + 1) (r_ud ch l b)) (f_Ru_combine_107 (f_Ru_combine f) g (some 4) (Int32.ofNat l) (some r) (Int32.ofNat (fr l + j)) w) w a := by
        intro dd
        induction dd with
        | zero =>
          intro j g w a e3 e4 F P E hK
          obtain ⟨g, rfl⟩ : ∃ m, g = m + 1 := ⟨g - 1, by omega⟩
          obtain ⟨-, rel, cl, x1, x2, x3, x4, -⟩ := s3.wf F
          have eL : ((r_pk (mk l) ((rows l).drop j)).flatMap fun b => r_cl tb cds lv (fun k => r_pk (mk k) (rows k)) d (l + 1) (r_ud ch l b)) = [] := by
            rw [List.drop_eq_nil_of_le (by omega)]; rfl
          rw [eL, f_Ru_combine_107, x_gI, x4, if_pos (by rw [x_le (by omega) (by omega)]; omega)]
          exact ⟨fun _ => ⟨w, rfl, F, P, fun _ _ _ _ => rfl⟩, fun ⟨e, m1, _⟩ => by cases m1⟩
        | succ dd ih2 =>
          intro j g w a e3 e4 F P E hK
          obtain ⟨g, rfl⟩ : ∃ m, g = m + 1 := ⟨g - 1, by omega⟩
          obtain ⟨-, rel, cl, x1, x2, x3, x4, -⟩ := s3.wf F
          obtain ⟨w2, ew2⟩ : ∃ w2, w2 = g_setI w 713 r (Int32.ofNat (fr l + j)) := ⟨_, rfl⟩
          have F2 : X_wf p n0 w0 w2 := by rw [ew2]; exact F.at _ _
          have P2 : X_pr Rel fc fo rk w2 a := by
            rw [ew2]
            rcases P with h | ⟨h, a0, h1, h2⟩
            · exact Or.inl (hrel _ _ _ _ r9 h)
            · exact Or.inr ⟨h, a0, hrel _ _ _ _ r9 h1, h2⟩
          have at2 : ∀ k r', k < l → so k = some r' → g_I w2 713 r' = g_I w 713 r' := fun k r' hk hr => by
            rw [ew2, x_Ia (fun e => by
              rw [e] at hr
              have := c8 k l r hr s1
              omega)]
          have E2 : X_eb w2 so rows fr l ch := fun k hk => by
            obtain ⟨r', j', q1, q2, q3⟩ := E k hk
            exact ⟨r', j', q1, by rw [at2 k r' hk q1]; exact q2, q3⟩
          have hd : (rows l).drop j = (rows l).getD j [] :: (rows l).drop (j + 1) := by
            rw [List.getD_eq_getElem?_getD, List.getElem?_eq_getElem (by omega)]
            exact List.drop_eq_getElem_cons (by omega)
          have ps := y_pass (s3.wf F2) (j := j) (by omega)
          rw [f_Ru_combine_107, x_gI, x4, if_neg (by rw [x_le (by omega) (by omega)]; omega), x_pI, ← ew2, x_nn, ps, x_c, x_p1, x_p1]
          rw [hd, r_pk_c] at hK ⊢
          cases hb : (mk l && decide (r_hd ((rows l).getD j []) 3 = 1)) with
          | true =>
            rw [hb, if_pos rfl] at hK
            rw [if_neg (show ¬ z_g true = 0 from by decide), if_pos (show true = true from rfl)]
            obtain ⟨y1, y2⟩ := ih2 (j + 1) g w2 a (by omega) (by omega) F2 P2 E2 hK
            refine ⟨fun nb => ?_, y2⟩
            obtain ⟨w', q1, q2, q3, q4⟩ := y1 nb
            exact ⟨w', q1, q2, q3, fun k r' hk hr => (q4 k r' hk hr).trans (at2 k r' hk hr)⟩
          | false =>
            rw [hb, if_neg (by decide), List.flatMap_cons, List.length_append] at hK
            rw [if_pos (show z_g false = 0 from rfl), if_neg (show ¬ false = true from by decide), List.flatMap_cons, x_nn]
            have E3 : X_eb w2 so rows fr (l + 1) (r_ud ch l ((rows l).getD j [])) := fun k hk => by
              by_cases e : k = l
              · rw [e]
                exact ⟨r, j, s1, by rw [ew2, x_Iss], by omega, by unfold r_ud; rw [if_pos rfl]⟩
              · obtain ⟨r', j', q1, q2, q3, q4⟩ := E2 k (by omega)
                exact ⟨r', j', q1, q2, q3, by unfold r_ud; rw [if_neg e]; exact q4⟩
            obtain ⟨z1, z2⟩ := ih (l + 1) f w2 a (r_ud ch l ((rows l).getD j [])) (by omega) (by omega) F2 P2 E3 (by omega)
            generalize hL1 : r_cl tb cds lv (fun k => r_pk (mk k) (rows k)) d (l + 1) (r_ud ch l ((rows l).getD j [])) = L1 at z1 z2 hK ⊢
            by_cases hbad : ∃ e ∈ L1, bad e
            · obtain ⟨w', q1, q2⟩ := z2 hbad
              refine ⟨fun nb => ?_, fun _ => ⟨w', by rw [q1, x_cTr], q2⟩⟩
              obtain ⟨e, m1, m2⟩ := hbad
              exact absurd m2 (nb e (List.mem_append_left _ m1))
            · obtain ⟨w3, q1, q2, q3, q4⟩ := z1 (fun e m1 m2 => hbad ⟨e, m1, m2⟩)
              have E4 : X_eb w3 so rows fr l ch := fun k hk => by
                obtain ⟨r', j', t1, t2, t3⟩ := E2 k hk
                exact ⟨r', j', t1, by rw [q4 k r' (by omega) t1]; exact t2, t3⟩
              obtain ⟨y1, y2⟩ := ih2 (j + 1) g w3 _ (by omega) (by omega) q2 q3 E4 (by rw [cntL]; omega)
              rw [q1, x_cTi]
              refine ⟨fun nb => ?_, fun ⟨e, m1, m2⟩ => ?_⟩
              · obtain ⟨w', t1, t2, t3, t4⟩ := y1 (fun e m1 => nb e (List.mem_append_right _ m1))
                refine ⟨w', t1, t2, by rw [List.foldl_append]; exact t3, fun k r' hk hr => ((t4 k r' hk hr).trans (q4 k r' (by omega) hr)).trans (at2 k r' hk hr)⟩
              · rcases List.mem_append.mp m1 with m | m
                · exact absurd ⟨e, m, m2⟩ hbad
                · exact y2 ⟨e, m, m2⟩
      have L0 := loop (rows l).length 0 200000 w1 a (by omega) (by omega) F1 (Or.inl rel1) (E.i3 i1) (by rw [List.drop_zero]; exact hK)
      rw [List.drop_zero] at L0
      obtain ⟨y1, y2⟩ := L0
      refine ⟨fun nb => ?_, y2⟩
      obtain ⟨w', q1, q2, q3, q4⟩ := y1 nb
      exact ⟨w', q1, q2, q3, fun k r' hk hr => (q4 k r' hk hr).trans (i1.at hr)⟩
    · rw [if_neg hc, if_neg hc]
      exact ⟨fun _ => ⟨w1, rfl, F1, Or.inl rel1, fun k r _ hr => i1.at hr⟩, fun ⟨e, m1, _⟩ => by cases m1⟩
end
