/-! THE REFERENCE READS A QUERY, WHOLE -/
theorem x_pZ {α : Type} {u : g_St} {k a : Nat} (b : Bool) (F : g_St → Option α) : g_pZ u k (some a) (z_g b) F = F (g_setI u k a (z_g b)) := by
  show (if z_g b = 0 ∨ z_g b = 1 then F (g_setI u k a (z_g b)) else none) = _
  rw [if_pos (by cases b <;> decide)]
/-- how the reader ends -/
def M_fin (n : Nat) (kd pl : Nat → Nat) (vl : Nat → Int64) (u : g_St) (x : Option Nat) : Prop := m_Fix u ∧ z_tkM u n kd pl vl ∧ match x with
  | some q => z_st u pl q ∧ q ≤ n
  | none => g_I u 833 1 = 0
section
variable {n : Nat} {kd pl : Nat → Nat} {vl : Nat → Int64}
theorem b_93 (H : z_H n kd) {u : g_St} {r : z_P} (h : M_b n kd pl vl u r) : ∃ u', f_M_readQuery_93 (some 1) u = some ((), u') ∧ M_fin n kd pl vl u' (z_w4 kd r) ∧ M_as u u' := by
  cases r with
  | inl q =>
    refine ⟨u, ?_, ⟨h.1, h.2.1, h.2.2⟩, ⟨fun _ => rfl, fun _ _ _ _ => rfl⟩⟩
    unfold f_M_readQuery_93
    rw [x_nn, pM_needS h.2.2.1.1 99, x_c]
  | inr p =>
    obtain ⟨v, u', a1, a2, a3, a4⟩ := m_need h.1 h.2.1 H.1 H.2.1 h.2.2.2 h.2.2.1 (k := 38) (by decide)
    have st : f_M_readQuery_93 (some 1) u = some ((), u') := by
      unfold f_M_readQuery_93
      rw [x_nn, show (99 : Int32) = z_km 38 from rfl, a1, x_c]
    by_cases w : kd p = 38
    · obtain ⟨-, e⟩ := a3 w
      refine ⟨u', st, ⟨by rw [e]; exact h.1, by rw [e]; exact h.2.1, ?_⟩, ⟨fun a => by rw [e]; rfl, fun x y1 y2 y3 => by rw [e, x_I_I, if_neg (fun q => y1 q.1)]⟩⟩
      have : z_w4 kd (.inr p) = none := by unfold z_w4; simp only []; rw [if_pos w]
      rw [this]
      show g_I u' 833 1 = 0
      rw [e, x_I_I, if_neg (fun q => by have := q.1; omega)]
      exact h.2.2.1.1
    · have e := a4 w
      refine ⟨u', st, ⟨by rw [e]; exact h.1, by rw [e]; exact h.2.1, ?_⟩, ⟨fun a => by rw [e]; rfl, fun x y1 y2 y3 => by rw [e, x_I_I, if_neg (fun q => y3 q.1), x_I_I, if_neg (fun q => y2 q.1)]⟩⟩
      have : z_w4 kd (.inr p) = some p := by unfold z_w4; simp only []; rw [if_neg w]
      rw [this]
      unfold z_nd at a2
      rw [if_neg w] at a2
      exact ⟨a2, h.2.2.2⟩
theorem b_65 (H : z_H n kd) {u0 u : g_St} {r : z_P} {l : List z_Pa} (h : M_b n kd pl vl u r) (hl : l.length ≤ 4) (h0 : g_I u0 4353 1 = 0) (hJ : ∀ q, r = .inr q → ∃ C, M_jq pl u0 q l u C) : ∃ u', f_M_readQuery_65 (some 1) u = some ((), u') ∧ M_fin n kd pl vl u' (z_w4 kd (z_w3 kd (z_w2 kd vl r).2).2) ∧ (z_w4 kd (z_w3 kd (z_w2 kd vl r).2).2 = none → ∃ C, M_c u' C ∧ g_I u' 2113 1 = g_I u0 2113 1 ∧ C 1153 = l.length ∧ M_pas pl u' C l ∧ g_AI u' 1876 4 = Int32.ofNat (z_tot l) ∧ M_se pl u' C (z_tot l) 4 (z_w2 kd vl r).1 ∧ C 2177 = z_tot l + 1 ∧ z_tot l ≤ 4 * l.length ∧ M_or u' (z_w3 kd (z_w2 kd vl r).2).1 ∧ z_lim C) := by
  have B3 : M_b n kd pl vl (g_setAI u 1876 4 (g_I u 2177 1)) r := h.sI (by decide) (by decide) _ _
  have st0 : f_M_readQuery_65 (some 1) u = g_c (g_nn (some 1) (f_M_readSelection (some 1) 4 (g_setAI u 1876 4 (g_I u 2177 1)))) fun _ s5 => g_c (g_nn (some 1) (f_M_is (some 1) 25 s5)) fun i6 s7 => if i6 = 0 then f_M_readQuery_93 (some 1) s7 else g_c (g_nn (some 1) (f_M_readOrder (some 1) s7)) fun _ s9 => f_M_readQuery_93 (some 1) s9 := by
    unfold f_M_readQuery_65
    rw [x_gR, (m_at h.1 m_k1985).1, x_gI, show (4 : Int32) = Int32.ofNat 4 from rfl, x_sI (by decide) (by rw [(m_at h.1 m_k1985).2]; decide)]
  cases r with
  | inl q =>
    obtain ⟨u', a1, a2, a3⟩ := b_93 H B3
    refine ⟨u', ?_, a2, fun w => by cases w⟩
    rw [st0, x_nn, show f_M_readSelection (some 1) 4 (g_setAI u 1876 4 (g_I u 2177 1)) = some ((), g_setAI u 1876 4 (g_I u 2177 1)) from (by
      unfold f_M_readSelection
      rw [x_nn, pM_badS B3.2.2.1.1, x_c, if_neg (by decide)]), x_c, x_nn, pM_isS B3.2.2.1.1, x_c, if_pos rfl, a1]
  | inr q =>
    obtain ⟨C, c1, c2, c3, c4, c5, c6, c7, c8⟩ := hJ q rfl
    have L3 : M_low u (g_setAI u 1876 4 (g_I u 2177 1)) C := M_low.re.sI (f := 1153) (k := 1) (by decide) (by omega) _
    obtain ⟨s5, a1, a2, a3⟩ := b_sel H B3 (c1.sI 1876 4 _) c2.1 (by omega) (by have := c2.2.1; omega) c2.2.2 4
    have W5 := w_M_readSelection (Int32.ofNat 4) _ B3.1 a1
    have st1 : f_M_readQuery_65 (some 1) u = g_c (g_nn (some 1) (f_M_is (some 1) 25 s5)) fun i6 s7 => if i6 = 0 then f_M_readQuery_93 (some 1) s7 else g_c (g_nn (some 1) (f_M_readOrder (some 1) s7)) fun _ s9 => f_M_readQuery_93 (some 1) s9 := by
      rw [st0, x_nn, show (4 : Int32) = Int32.ofNat 4 from rfl, a1, x_c]
    have e2 : z_w2 kd vl (.inr q) = z_ser kd vl q := rfl
    rw [e2]
    cases hz : (z_ser kd vl q).2 with
    | inl x =>
      rw [hz] at a2
      obtain ⟨u', b1, b2, b3⟩ := b_93 H a2
      refine ⟨u', ?_, b2, fun w => by cases w⟩
      rw [st1, x_nn, pM_isS a2.2.2.1.1, x_c, if_pos rfl, b1]
    | inr x =>
      obtain ⟨d1, C', d2, d3, d4, d5, d6, d7, d8, d9⟩ := a3 x hz
      rw [hz] at a2
      have i5 : ∀ f, f = 2113 ∨ f = 4353 → g_I s5 f 1 = g_I u0 f 1 := fun f hf => by
        rw [W5.2.2.2.2.2.2.2.1 f 1 (fun w => by have := w.2; simp only [List.mem_cons, List.not_mem_nil, or_false] at this; omega)]
        show g_I u f 1 = _
        rcases hf with e | e
        · rw [e]; exact c6
        · rw [e]; exact c7
      have k5 : g_AI s5 1876 4 = Int32.ofNat (C 2177) := by
        rw [(W5.2.2.2.2.2.2.2.2 1876 (by decide)).1, x_AI_AI, if_pos ⟨rfl, rfl⟩, c1 _ (by decide)]
      have P5 : M_pas pl s5 C' l := (c8.low L3 z_le.re).low d1 d3
      have hx4 : x ≤ n := a2.2.2.2
      have hn4 := H.2.1
      have lim : z_lim C' := by
        obtain ⟨e1, e2, e3⟩ := d6
        exact ⟨by omega, by omega, by omega, by omega, by omega, by omega⟩
      by_cases w : kd x = 24
      · have e3 : z_w3 kd (.inr x) = (some (x, (z_ors kd x).1), (z_ors kd x).2) := by unfold z_w3; simp only []; rw [if_pos w]
        obtain ⟨s9, f1, f2, f3, f4⟩ := b_ors H a2 w (by rw [i5 _ (Or.inr rfl)]; exact h0)
        have W9 := w_M_readOrder _ a2.1 f1
        obtain ⟨u', b1, b2, b3⟩ := b_93 H f2
        rw [e3]
        refine ⟨u', ?_, b2, fun wn => ?_⟩
        · rw [st1, x_nn, show (25 : Int32) = z_km 24 from rfl, b_is H a2 (by decide), x_c, if_pos w, if_neg (by decide), x_nn, f1, x_c, b1]
        · have L9 : M_low s5 s9 C' := M_low.W W9 (fun a ha q hq e => by
            have e' : a = 3732 := List.mem_singleton.mp ha
            exact absurd (e.trans e') ((show ∀ q ∈ z_gp, q.1 ≠ 3732 by decide) q hq))
          have Lu : M_low s5 u' C' := L9.trans (M_low.as b3) z_le.re
          have cu : M_c u' C' := M_c.as (fun f hf => by
            rw [W9.2.2.2.2.2.2.2.1 f 1 (fun y => absurd y.2 ((show ∀ f ∈ z_cf, f ∉ [577, 833, 897, 4353, 4417] by decide) f hf))]
            exact d2 f hf) b3
          refine ⟨C', cu, ?_, by rw [d4, c3], P5.low Lu z_le.re, ?_, ?_, by rw [d5, c4], c5, ?_, lim⟩
          · rw [b3.2 _ (by decide) (by decide) (by decide), W9.2.2.2.2.2.2.2.1 2113 1 (fun y => absurd y.2 (by decide))]
            exact i5 _ (Or.inl rfl)
          · rw [b3.1, (W9.2.2.2.2.2.2.2.2 1876 (by decide)).1, k5, c4]
          · rw [← c4]; exact d9.low Lu z_le.re
          · cases hy : (z_ors kd x).2 with
            | inl y =>
              rw [hy] at wn; cases wn
            | inr y =>
              have J := (f4 y hy).as (q' := y) b3
              exact ⟨J.1, J.2.1, f3, J.2.2⟩
      · have e3 : z_w3 kd (.inr x) = (none, .inr x) := by unfold z_w3; simp only []; rw [if_neg w]
        obtain ⟨u', b1, b2, b3⟩ := b_93 H a2
        rw [e3]
        have Lu : M_low s5 u' C' := M_low.as b3
        refine ⟨u', ?_, b2, fun wn => ⟨C', d2.as b3, ?_, by rw [d4, c3], P5.low Lu z_le.re, ?_, ?_, by rw [d5, c4], c5, ?_, lim⟩⟩
        · rw [st1, x_nn, show (25 : Int32) = z_km 24 from rfl, b_is H a2 (by decide), x_c, if_neg w, if_pos rfl, b1]
        · rw [b3.2 _ (by decide) (by decide) (by decide)]
          exact i5 _ (Or.inl rfl)
        · rw [b3.1, k5, c4]
        · rw [← c4]; exact d9.low Lu z_le.re
        · show g_I u' 4353 1 = 0
          rw [b3.2 _ (by decide) (by decide) (by decide), i5 _ (Or.inr rfl)]
          exact h0
theorem b_qry (H : z_H n kd) {u : g_St} (h : M_b n kd pl vl u (.inr 0)) (hc : M_c u fun _ => 0) (h0 : g_I u 4353 1 = 0) : ∃ u', f_M_readQuery (some 1) u = some ((), u') ∧ M_fin n kd pl vl u' (z_qed kd vl) ∧ (z_qed kd vl = none → ∃ C, M_qu pl u' C (z_qry kd vl)) := by
  have B1 : M_b n kd pl vl (g_setI u 2113 1 (z_g false)) (.inr 0) := h.pI (by decide) (by decide) (by decide) _
  obtain ⟨s3, a1, a2, a3⟩ := b_sk H B1 (k := 0) (by decide)
  have bs : ∀ q, z_bs 0 q (fun _ => 0) := fun q => ⟨⟨Nat.zero_le _, Nat.le_refl _, Nat.zero_le _⟩, Nat.zero_le _, Nat.le_refl _⟩
  have c3 : M_c s3 (fun _ => 0) := (hc.pO (by decide) _).as a3
  have j3 : M_jq pl s3 0 [] s3 (fun _ => 0) := ⟨c3, bs _, rfl, rfl, Nat.le_refl _, rfl, rfl, fun j hj => by cases hj⟩
  have i3 : g_I s3 4353 1 = 0 := by rw [a3.2 _ (by decide) (by decide) (by decide), x_I_I, if_neg (fun w => by have := w.1; omega)]; exact h0
  have k3 : g_I s3 2113 1 = z_g false := by rw [a3.2 _ (by decide) (by decide) (by decide), x_I_I, if_pos ⟨rfl, rfl⟩]
  have st : f_M_readQuery (some 1) u = if z_g (z_skr kd 0 (.inr 0)).1 = 0 then f_M_readQuery_65 (some 1) s3 else g_c (g_nn (some 1) (f_M_skip (some 1) 2 s3)) fun i4 s5 => g_pZ s5 2113 (some 1) i4 fun s6 => f_M_readQuery_24 200000 (some 1) 1 s6 := by
    unfold f_M_readQuery
    rw [show (0 : Int32) = z_g false from rfl, x_pZ, x_nn, show (1 : Int32) = z_km 0 from rfl, a1, x_c]
  by_cases w : kd 0 = 0
  · rw [z_skr_t w] at a2
    obtain ⟨s5, b1, b2, b3⟩ := b_sk H a2 (k := 1) (by decide)
    obtain ⟨s6, h6⟩ : ∃ s6, s6 = g_setI s5 2113 1 (z_g (z_skr kd 1 (.inr (0 + 1))).1) := ⟨_, rfl⟩
    rw [z_skr_t w, if_neg (show ¬ z_g (true, (.inr (0 + 1) : z_P)).1 = 0 from (show ¬ z_g true = 0 by decide)), x_nn, show (2 : Int32) = z_km 1 from rfl, b1, x_c, x_pZ, ← h6] at st
    have e1 : (z_skr kd 1 (.inr (0 + 1))) = (decide (kd 0 = 0 ∧ kd 1 = 1), .inr (if kd 1 = 1 then 2 else 1)) := by
      by_cases y : kd 1 = 1
      · rw [z_skr_t y, if_pos y, decide_eq_true ⟨w, y⟩]
      · rw [z_skr_f y, if_neg y, decide_eq_false (fun z => y z.2)]
    have B6 : M_b n kd pl vl s6 (.inr (if kd 1 = 1 then 2 else 1)) := by
      rw [h6]
      rw [e1] at b2
      exact b2.pI (by decide) (by decide) (by decide) _
    have c6 : M_c s6 (fun _ => 0) := by rw [h6]; exact (c3.as b3).pO (by decide) _
    have i6 : g_I s6 4353 1 = 0 := by rw [h6, x_I_I, if_neg (fun w => by have := w.1; omega), b3.2 _ (by decide) (by decide) (by decide)]; exact i3
    obtain ⟨u1, d1, d2, d3, d4⟩ := b_pts (pl := pl) (vl := vl) H B6 (C0 := fun _ => 0) ⟨c6, bs _, rfl, rfl, Nat.le_refl _, rfl, rfl, fun j hj => by cases hj⟩
    have ew : z_w1 kd vl = z_lst kd 25 (z_par kd vl) 3 (if kd 1 = 1 then 2 else 1) := by unfold z_w1; rw [if_pos w]
    rw [← ew] at d2 d3 d4
    obtain ⟨u', f1, f2, f3⟩ := b_65 H d2 d3 i6 d4
    refine ⟨u', by rw [st, d1, f1], f2, fun hn => ?_⟩
    obtain ⟨C, g1, g2, g3, g4, g5, g6, g7, g8, g9, g10⟩ := f3 hn
    refine ⟨C, g1, ?_, g3, d3, g4, g5, g6, g7, g8, g9, g10⟩
    rw [g2, h6, x_I_I, if_pos ⟨rfl, rfl⟩, e1]; rfl
  · rw [z_skr_f w] at a2
    rw [z_skr_f w, if_pos (show z_g (false, (.inr 0 : z_P)).1 = 0 from rfl)] at st
    have ew : z_w1 kd vl = ([], .inr 0) := by unfold z_w1; rw [if_neg w]
    obtain ⟨u', f1, f2, f3⟩ := b_65 (vl := vl) (r := .inr 0) (l := []) H a2 (Nat.zero_le _) i3 (fun q hq => by cases hq; exact ⟨_, j3⟩)
    have eq1 : z_w2 kd vl (z_w1 kd vl).2 = z_w2 kd vl (.inr 0) := by rw [ew]
    refine ⟨u', by rw [st, f1], by unfold z_qed; rw [eq1]; exact f2, fun hn => ?_⟩
    unfold z_qed at hn
    rw [eq1] at hn
    obtain ⟨C, g1, g2, g3, g4, g5, g6, g7, g8, g9, g10⟩ := f3 hn
    refine ⟨C, g1, ?_, ?_, ?_, ?_, ?_, ?_, ?_, ?_, ?_, g10⟩
    · show g_I u' 2113 1 = z_g (decide (kd 0 = 0 ∧ kd 1 = 1))
      rw [g2, k3, decide_eq_false (fun z => w z.1)]
    · show _ = (z_w1 kd vl).1.length
      rw [ew]; exact g3
    · show (z_w1 kd vl).1.length ≤ 4
      rw [ew]; exact Nat.zero_le _
    · show M_pas pl u' C (z_w1 kd vl).1
      rw [ew]; exact g4
    · show _ = Int32.ofNat (z_tot (z_w1 kd vl).1)
      rw [ew]; exact g5
    · show M_se pl u' C (z_tot (z_w1 kd vl).1) 4 (z_w2 kd vl (z_w1 kd vl).2).1
      rw [eq1, ew]; exact g6
    · show _ = z_tot (z_w1 kd vl).1 + 1
      rw [ew]; exact g7
    · show z_tot (z_w1 kd vl).1 ≤ 4 * (z_w1 kd vl).1.length
      rw [ew]; exact g8
    · show M_or u' (z_w3 kd (z_w2 kd vl (z_w1 kd vl).2).2).1
      rw [eq1]; exact g9
end
