/-! THE REFERENCE READS A NOT EXISTS, WHOLE -/
theorem w_M_ne201 (x1 : Int32) (s0 : g_St) {o : Int32 × g_St} (hm : m_Fix s0) (h : f_M_readNotExists_201 (some 1) x1 s0 = some o) : z_W [577, 833, 897, 3009, 3073, 3841] [2644, 2708, 2772, 2836, 2900, 3284, 3348, 3412, 3476, 3604, 3668] s0 o.2 := by
  unfold f_M_readNotExists_201 at h
  have hs0 : z_W [577, 833, 897, 3009, 3073, 3841] [2644, 2708, 2772, 2836, 2900, 3284, 3348, 3412, 3476, 3604, 3668] s0 s0 := z_W.re
  refine fr_c h (fun v1 s2 hc h => ?_)
  have hs1 := hs0.trans ((w_M_needSign _ _ (hs0.fx hm) (er_nn hc)).mono (by decide) (by decide))
  exact fr_some h hs1
theorem w_M_ne133 : ∀ (n : Nat) (x1 : Int32) (x2 : Int32) (s0 : g_St) {o : Int32 × g_St}, m_Fix s0 → f_M_readNotExists_133 n (some 1) x1 x2 s0 = some o → z_W [577, 833, 897, 3009, 3073, 3841] [2644, 2708, 2772, 2836, 2900, 3284, 3348, 3412, 3476, 3604, 3668] s0 o.2 := by
  intro n
  induction n with
  | zero =>
    intro x1 x2 s0 o hm h
    rw [f_M_readNotExists_133] at h
    cases h
  | succ n ih =>
    intro x1 x2 s0 o hm h
    rw [f_M_readNotExists_133] at h
    have hs0 : z_W [577, 833, 897, 3009, 3073, 3841] [2644, 2708, 2772, 2836, 2900, 3284, 3348, 3412, 3476, 3604, 3668] s0 s0 := z_W.re
    refine fr_if h (fun h => ?_) (fun h => ?_)
    · exact hs0.trans (w_M_ne201 _ _ (hs0.fx hm) h)
    · refine fr_c h (fun i1 s2 hc h => ?_)
      have hs1 := hs0.trans ((w_M_bad _ (hs0.fx hm) (er_nn hc)).mono (by decide) (by decide))
      refine fr_if h (fun h => ?_) (fun h => ?_)
      · refine fr_gR (hs1.fx hm _ m_k4289).1 h (fun h => ?_)
        refine fr_gR (hs1.fx hm _ m_k4225).1 h (fun h => ?_)
        refine fr_aI h (fun i5 h => ?_)
        refine fr_c h (fun i6 s7 hc h => ?_)
        have hs2 := hs1.trans ((w_M_readCondition _ (hs1.fx hm) (er_nn hc)).mono (by decide) (by decide))
        refine fr_sI h (fun j3 h => ?_)
        have hs3 := z_W.sI hs2 (a := 3668) (by decide) j3 i6
        refine fr_gR (hs3.fx hm _ m_k4225).1 h (fun h => ?_)
        refine fr_aI h (fun i10 h => ?_)
        refine fr_sI h (fun j4 h => ?_)
        have hs4 := z_W.sI hs3 (a := 3604) (by decide) j4 (i10 + 1)
        refine fr_gR (hs4.fx hm _ m_k4225).1 h (fun h => ?_)
        refine fr_aI h (fun i13 h => ?_)
        refine fr_if h (fun h => ?_) (fun h => ?_)
        · exact hs4.trans (ih _ _ _ (hs4.fx hm) h)
        · refine fr_c h (fun i14 s15 hc h => ?_)
          have hs5 := hs4.trans ((w_M_skip _ _ (hs4.fx hm) (er_nn hc)).mono (by decide) (by decide))
          refine fr_if h (fun h => ?_) (fun h => ?_)
          · exact hs5.trans (ih _ _ _ (hs5.fx hm) h)
          · exact hs5.trans (ih _ _ _ (hs5.fx hm) h)
      · exact hs1.trans (w_M_ne201 _ _ (hs1.fx hm) h)
section
variable {n : Nat} {kd pl : Nat → Nat} {vl : Nat → Int64}
/-- a source -/
theorem b_so (H : z_H n kd) {u : g_St} {r : z_P} (h : M_b n kd pl vl u r) {C : Nat → Nat} (hc : M_c u C) (hk : C 3585 < 100) : ∃ u', f_M_readSource (some 1) u = some ((), u') ∧ M_b n kd pl vl u' (z_sor kd r) ∧ z_W [577, 833, 897, 3585] [3092, 3156] u u' ∧ M_low u u' C ∧ M_c u' (z_up C 3585 (C 3585 + 1)) ∧ ∀ p q, r = .inr p → z_sor kd r = .inr q → M_so u' (C 3585) p ∧ q = p + 2 := by
  obtain ⟨u', a1, a2, a3, a4, a5, a6, a7, a8⟩ := m_source H.1 H.2.1 H.2.2 h.1 h.2.1 h.2.2 hk (hc _ (by decide))
  refine ⟨u', a1, ⟨a2, a3, a4⟩, a5, M_low.W a5 (fun a ha => ?_), M_c.ex hc [(3585, C 3585 + 1)] (fun q hq => ?_) (fun f hf hq => ?_), fun p q e1 e2 => ⟨a8 p e1 ⟨q, e2⟩, ?_⟩⟩
  · simp only [List.mem_cons, List.not_mem_nil, or_false] at ha
    rcases ha with rfl | rfl
    · exact M_low.of (f := 3585) (k := 1) (by decide) (fun j hj => (a7 j (by omega)).1)
    · exact M_low.of (f := 3585) (k := 1) (by decide) (fun j hj => (a7 j (by omega)).2)
  · simp only [List.mem_cons, List.not_mem_nil, or_false] at hq
    rw [hq]; exact a6
  · refine a5.2.2.2.2.2.2.2.1 f 1 (fun q => ?_)
    have q2 := q.2
    simp only [List.mem_cons, List.not_mem_nil, or_false] at q2
    rcases q2 with rfl | rfl | rfl | rfl
    · revert hf; decide
    · revert hf; decide
    · revert hf; decide
    · exact hq (3585, C 3585 + 1) (by simp) rfl
  · obtain ⟨p', e, -, -, e'⟩ := z_sor_ok e2
    rw [e1] at e
    cases e
    exact e'
theorem z_neh_ok {p q : Nat} (h : z_neh kd vl p = .inr q) : q = p + 6 := by
  unfold z_neh at h
  obtain ⟨p1, e1, -, f1⟩ := z_ndr_ok h
  obtain ⟨p2, e2, -, f2⟩ := z_ndr_ok e1
  have e3 : ∃ p3, z_ndr kd 3 (z_ndr kd 26 (z_ndr kd 8 (.inr (p + 1)))) = .inr p3 ∧ p2 = p3 := by
    cases hz : z_ndr kd 3 (z_ndr kd 26 (z_ndr kd 8 (.inr (p + 1)))) with
    | inl x => rw [hz] at e2; cases e2
    | inr x =>
      rw [hz] at e2
      unfold z_one at e2
      simp only [] at e2
      by_cases w : kd x = 37 ∧ vl x ≠ 1
      · rw [if_pos w] at e2; cases e2
      · rw [if_neg w] at e2; cases e2; exact ⟨_, rfl, rfl⟩
  obtain ⟨p3, e3, f3⟩ := e3
  obtain ⟨p4, e4, -, f4⟩ := z_ndr_ok e3
  obtain ⟨p5, e5, -, f5⟩ := z_ndr_ok e4
  obtain ⟨p6, e6, -, f6⟩ := z_ndr_ok e5
  cases e6
  omega
theorem z_new_s {p : Nat} (h : (z_skr kd 5 (z_sor kd (z_neh kd vl p))).1 = false) : z_new kd vl p = ([], (z_skr kd 5 (z_sor kd (z_neh kd vl p))).2) := by
  unfold z_new
  generalize z_skr kd 5 (z_sor kd (z_neh kd vl p)) = x at h
  obtain ⟨b, r⟩ := x
  cases b with
  | false => rfl
  | true => cases h
theorem z_new_t {p q : Nat} (h : z_skr kd 5 (z_sor kd (z_neh kd vl p)) = (true, .inr q)) : z_new kd vl p = z_cil kd 2 q := by
  unfold z_new
  rw [h]
theorem b_ne (H : z_H n kd) {u : g_St} {p : Nat} (h : M_b n kd pl vl u (.inr p)) (h7 : kd p = 7) {C : Nat → Nat} (hc : M_c u C) (hb : z_bg 0 p C) (hk : C 3585 < 100) : ∃ u', f_M_readNotExists (some 1) u = some (Int32.ofNat (C 3841), u') ∧ M_b n kd pl vl u' (z_ner kd vl p).2 ∧ z_W [577, 833, 897, 3009, 3073, 3585, 3841] [2644, 2708, 2772, 2836, 2900, 3092, 3156, 3284, 3348, 3412, 3476, 3540, 3604, 3668] u u' ∧ M_low u u' C ∧ ∃ C', M_c u' C' ∧ z_le C C' ∧ (∀ f, f ≠ 3009 → f ≠ 3073 → f ≠ 3841 → f ≠ 3585 → C' f = C f) ∧ C' 3585 = C 3585 + 1 ∧ ∀ q, (z_ner kd vl p).2 = .inr q → z_bg 1 q C' ∧ p + 9 ≤ q ∧ M_co u' C' (C 3841) (.inr (z_ner kd vl p).1) := by
  have hp := h.le
  have hn := H.2.1
  have hpn := H.2.2 p hp (by omega)
  obtain ⟨b1, b2, b3⟩ := hb
  have hc3 : C 3841 < 120 := by omega
  -- the beginning
  obtain ⟨s9, hs9⟩ : ∃ s9, s9 = g_setAI (g_setAI (g_setI (g_setI u 577 1 (Int32.ofNat (p + 1))) 3841 1 (Int32.ofNat (C 3841 + 1))) 3284 (C 3841) 2) 3604 (C 3841) 0 := ⟨_, rfl⟩
  have B2 : M_b n kd pl vl (g_setI u 577 1 (Int32.ofNat (p + 1))) (.inr (p + 1)) := ⟨h.1, h.2.1, ⟨by rw [x_I_I, if_neg (fun q => by have := q.1; omega)]; exact h.2.2.1.1, by rw [x_I_I, if_pos ⟨rfl, rfl⟩]⟩, by omega⟩
  have B9 : M_b n kd pl vl s9 (.inr (p + 1)) := by
    rw [hs9]
    exact ((B2.pI (by decide) (by decide) (by decide) _).sI (by decide) (by decide) _ _).sI (by decide) (by decide) _ _
  have C9 : M_c s9 (z_up C 3841 (C 3841 + 1)) := by
    rw [hs9]
    exact (((hc.pO (f := 577) (by decide) _).pI 3841 (C 3841 + 1)).sI _ _ _).sI _ _ _
  have L9 : M_low u s9 C := by
    rw [hs9]
    exact ((((M_low.re).pI _ _).pI _ _).sI (f := 3841) (k := 1) (by decide) (by omega) _).sI (f := 3841) (k := 1) (by decide) (by omega) _
  have g9 : ∀ a j, g_AI s9 a j = if a = 3604 ∧ j = C 3841 then 0 else if a = 3284 ∧ j = C 3841 then 2 else g_AI u a j := fun a j => by rw [hs9, x_AI_AI, x_AI_AI]; rfl
  obtain ⟨t, n1, n2, n3, n4, n5⟩ := m_neh H.1 H.2.1 H.2.2 B9.1 B9.2.1 B9.2.2 (Int32.ofNat (C 3841))
  have start : f_M_readNotExists (some 1) u = (g_gR t 4161 (some 1) fun p5 => g_gI t 3585 (some 1) fun i6 => g_sI t p5 (Int32.ofNat (C 3841)) i6 fun s7 => g_c (g_nn (some 1) (f_M_readSource (some 1) s7)) fun _ s9 => g_c (g_nn (some 1) (f_M_skip (some 1) 6 s9)) fun i10 s11 => if i10 = 0 then f_M_readNotExists_201 (some 1) (Int32.ofNat (C 3841)) s11 else f_M_readNotExists_133 200000 (some 1) (Int32.ofNat (C 3841)) 1 s11) := by
    rw [← n5]
    unfold f_M_readNotExists
    have i3 : g_I (g_setI u 577 1 (Int32.ofNat (p + 1))) 3841 1 = Int32.ofNat (C 3841) := by rw [x_I_I, if_neg (fun q => by have := q.1; omega)]; exact hc _ (by decide)
    rw [x_gI, h.2.2.1.2, x_pI, x_p1, x_gI, i3, x_gI, i3, x_pI, x_p1, x_gR, show g_R (g_setI (g_setI u 577 1 (Int32.ofNat (p + 1))) 3841 1 (Int32.ofNat (C 3841 + 1))) 3905 1 = some 3284 from (h.1 _ m_k3905).1, x_sI (by omega) (by show C 3841 < g_ln u 3284; rw [(h.1 _ m_k3905).2]; show C 3841 < 120; omega), x_gR, show g_R (g_setAI (g_setI (g_setI u 577 1 (Int32.ofNat (p + 1))) 3841 1 (Int32.ofNat (C 3841 + 1))) 3284 (C 3841) 2) 4225 1 = some 3604 from (h.1 _ m_k4225).1, x_sI (by omega) (by show C 3841 < g_ln u 3604; rw [(h.1 _ m_k4225).2]; show C 3841 < 120; omega), ← hs9]
  have C1 : M_c (g_setAI t 3540 (C 3841) (Int32.ofNat (C 3585))) (z_up C 3841 (C 3841 + 1)) := (C9.as n4).sI _ _ _
  have B1 : M_b n kd pl vl (g_setAI t 3540 (C 3841) (Int32.ofNat (C 3585))) (z_neh kd vl p) := M_b.sI ⟨n1, n2, n3⟩ (by decide) (by decide) _ _
  obtain ⟨s, d1, d2, d3, d4, d5, d6⟩ := b_so H B1 C1 (show C 3585 < 100 from hk)
  obtain ⟨s11, e1, e2, e3⟩ := b_sk H d2 (k := 5) (by decide)
  rw [x_gR, (n1 _ m_k4161).1, x_gI, show g_I t 3585 1 = Int32.ofNat (C 3585) from (C9.as n4) _ (by decide), x_sI (by omega) (by rw [(n1 _ m_k4161).2]; exact hc3), x_nn, d1, x_c, x_nn, show (6 : Int32) = z_km 5 from rfl, e1, x_c] at start
  -- what stands in s11
  have C11 : M_c s11 (z_up (z_up C 3841 (C 3841 + 1)) 3585 (C 3585 + 1)) := d5.as e3
  have lu : z_le C (z_up C 3841 (C 3841 + 1)) := z_le.re.up (by omega)
  have L1 : M_low u (g_setAI t 3540 (C 3841) (Int32.ofNat (C 3585))) C := (L9.trans (M_low.as n4) z_le.re).sI (f := 3841) (k := 1) (by decide) (by omega) _
  have L11 : M_low u s11 C := (L1.trans d4 lu).trans (M_low.as e3) z_le.re
  have g11 : ∀ a, a ≠ 3092 → a ≠ 3156 → ∀ j, g_AI s11 a j = if a = 3540 ∧ j = C 3841 then Int32.ofNat (C 3585) else g_AI s9 a j := fun a q1 q2 j => by
    rw [e3.1, (d3.2.2.2.2.2.2.2.2 a (fun w => by simp only [List.mem_cons, List.not_mem_nil, or_false] at w; omega)).1, x_AI_AI, n4.1]
  have k284 : g_AI s11 3284 (C 3841) = 2 := by rw [g11 3284 (by decide) (by decide), if_neg (fun w => by have := w.1; omega), g9, if_neg (fun w => by have := w.1; omega), if_pos ⟨rfl, rfl⟩]
  have k540 : g_AI s11 3540 (C 3841) = Int32.ofNat (C 3585) := by rw [g11 3540 (by decide) (by decide), if_pos ⟨rfl, rfl⟩]
  have k604 : g_AI s11 3604 (C 3841) = 0 := by rw [g11 3604 (by decide) (by decide), if_neg (fun w => by have := w.1; omega), g9, if_pos ⟨rfl, rfl⟩]
  have wr : ∀ u', f_M_readNotExists (some 1) u = some (Int32.ofNat (C 3841), u') → z_W [577, 833, 897, 3009, 3073, 3585, 3841] [2644, 2708, 2772, 2836, 2900, 3092, 3156, 3284, 3348, 3412, 3476, 3540, 3604, 3668] u u' := fun u' w => w_M_readNotExists _ h.1 w
  cases hw : (z_skr kd 5 (z_sor kd (z_neh kd vl p))).1 with
  | false =>
    rw [hw, if_pos (by decide)] at start
    have hz := z_new_s hw
    obtain ⟨u', f1, f2, f3, f4, f5⟩ := m_end201 H.1 H.2.1 H.2.2 e2.1 e2.2.1 e2.2.2 (Int32.ofNat (C 3841))
    rw [f1] at start
    have fa := f5.as
    have hr : (z_ner kd vl p) = ((z_pk (z_neh kd vl p), []), z_ndr kd 27 (z_skr kd 5 (z_sor kd (z_neh kd vl p))).2) := by unfold z_ner; rw [hz]
    rw [hr]
    refine ⟨u', start, ⟨f2, f3, f4⟩, wr u' start, L11.trans (M_low.as fa) z_le.re, _, C11.as fa, lu.up (show C 3585 ≤ C 3585 + 1 by omega), fun f q1 q2 q3 q4 => by rw [z_up_n _ _ q4, z_up_n _ _ q3], rfl, fun q hq => ?_⟩
    obtain ⟨q1, w1, -, w2⟩ := z_ndr_ok hq
    obtain ⟨q2, w3, w4⟩ := z_skr_ok w1
    obtain ⟨q3, w5, -, -, w6⟩ := z_sor_ok w3
    have w7 := z_neh_ok w5
    have w8 : q1 = q2 := by
      rcases w4 with ⟨-, -, w⟩ | ⟨-, w, -⟩
      · rw [hw] at w; cases w
      · exact w
    refine ⟨⟨?_, ?_, ?_⟩, by omega, ?_, ?_, ⟨C 3585, ?_, ?_, ?_⟩, ?_, ?_, fun j hj => by cases hj⟩
    · show 2 * C 3073 ≤ q + 1
      omega
    · exact b2
    · show 4 * (C 3841 + 1) ≤ q + 1
      omega
    · show C 3841 < C 3841 + 1
      omega
    · rw [fa.1]; exact k284
    · show C 3585 < C 3585 + 1
      omega
    · rw [fa.1]; exact k540
    · have := (d6 q3 q2 w5 w3).1
      rw [show z_pk (z_neh kd vl p) = q3 by rw [w5]; rfl]
      exact ⟨by rw [fa.1, e3.1]; exact this.1, by rw [fa.1, e3.1]; exact this.2⟩
    · rw [fa.1]; exact k604
    · exact Nat.zero_le _
  | true =>
    rw [hw, if_neg (by decide)] at start
    have ok : ∃ q0, z_skr kd 5 (z_sor kd (z_neh kd vl p)) = (true, .inr (q0 + 1)) ∧ z_sor kd (z_neh kd vl p) = .inr q0 := by
      cases hz : z_sor kd (z_neh kd vl p) with
      | inl x => rw [hz] at hw; cases hw
      | inr x =>
        by_cases w : kd x = 5
        · exact ⟨x, z_skr_t w, rfl⟩
        · rw [hz, z_skr_f w] at hw; cases hw
    obtain ⟨q0, o1, o2⟩ := ok
    obtain ⟨q3, w5, -, -, w6⟩ := z_sor_ok o2
    have w7 := z_neh_ok w5
    have hz := z_new_t o1
    have hr : (z_ner kd vl p) = ((z_pk (z_neh kd vl p), (z_cil kd 2 (q0 + 1)).1), z_ndr kd 27 (z_cil kd 2 (q0 + 1)).2) := by unfold z_ner; rw [hz]
    rw [hr]
    rw [o1] at e2
    obtain ⟨u', e', o', j1, j2, j3, j4, j5, j6, j7, j8, j9, j10, j11, j12, j13, j14⟩ := m_cil H.1 H.2.1 H.2.2 hc3 2 0 (q0 + 1) (C 3009) (C 3073) (C 3841 + 1) 200000 s11 (by omega) (by omega) e2.1 e2.2.1 e2.2.2 ⟨by omega, by omega, by omega⟩ (C11 _ (by decide)) (C11 _ (by decide)) (C11 _ (by decide)) k604
    rw [j1] at start
    have w133 := w_M_ne133 _ _ _ _ e2.1 j1
    have LL : M_low s11 u' C := M_low.W w133 (fun a ha => by
      simp only [List.mem_cons, List.not_mem_nil, or_false] at ha
      rcases ha with rfl | rfl | rfl | rfl | rfl | rfl | rfl | rfl | rfl | rfl | rfl
      · exact M_low.of (f := 3009) (k := 1) (by decide) (fun j hj => (j5.2.1 j (by omega)).2)
      · exact M_low.of (f := 3009) (k := 1) (by decide) (fun j hj => (j5.2.1 j (by omega)).1)
      · exact M_low.of (f := 3073) (k := 1) (by decide) (fun j hj => (j5.1 j (by omega)).2.1)
      · exact M_low.of (f := 3073) (k := 1) (by decide) (fun j hj => (j5.1 j (by omega)).1)
      · exact M_low.of (f := 3073) (k := 1) (by decide) (fun j hj => (j5.1 j (by omega)).2.2)
      · exact M_low.of (f := 3841) (k := 1) (by decide) (fun j hj => (j5.2.2.1 j (by omega)).1)
      · exact M_low.of (f := 3841) (k := 1) (by decide) (fun j hj => (j5.2.2.1 j (by omega)).2.1)
      · exact M_low.of (f := 3841) (k := 1) (by decide) (fun j hj => (j5.2.2.1 j (by omega)).2.2.1)
      · exact M_low.of (f := 3841) (k := 1) (by decide) (fun j hj => (j5.2.2.1 j (by omega)).2.2.2)
      · exact M_low.of (f := 3841) (k := 1) (by decide) (fun j hj => j5.2.2.2.1 j (by omega))
      · exact M_low.of (f := 3841) (k := 3) (by decide) (fun j hj => j5.2.2.2.2 j (by omega)))
    have keep : ∀ a, a = 3092 ∨ a = 3156 ∨ a = 3540 → g_AI u' a = g_AI s11 a := fun a w => (w133.2.2.2.2.2.2.2.2 a (by rcases w with w | w | w <;> subst w <;> decide)).1
    have l0 : ∀ A B, z_le A B → z_le A ([(3009, e'), (3073, o'), (3841, C 3841 + 1 + (z_cil kd 2 (q0 + 1)).1.length)].foldl (fun C q => z_up C q.1 q.2) B) → True := fun _ _ _ _ => trivial
    refine ⟨u', start, ⟨j2, j3, j4⟩, wr u' start, L11.trans LL z_le.re, [(3009, e'), (3073, o'), (3841, C 3841 + 1 + (z_cil kd 2 (q0 + 1)).1.length)].foldl (fun C q => z_up C q.1 q.2) (z_up (z_up C 3841 (C 3841 + 1)) 3585 (C 3585 + 1)), M_c.ex C11 _ (fun q hq => ?_) (fun f hf hq => ?_), ?_, fun f q1 q2 q3 q4 => ?_, rfl, fun q hq => ?_⟩
    · simp only [List.mem_cons, List.not_mem_nil, or_false] at hq
      rcases hq with rfl | rfl | rfl
      · exact j6
      · exact j7
      · exact j8
    · refine w133.2.2.2.2.2.2.2.1 f 1 (fun q => ?_)
      have q2 := q.2
      simp only [List.mem_cons, List.not_mem_nil, or_false] at q2
      rcases q2 with rfl | rfl | rfl | rfl | rfl | rfl
      · revert hf; decide
      · revert hf; decide
      · revert hf; decide
      · exact hq (3009, e') (by simp) rfl
      · exact hq (3073, o') (by simp) rfl
      · exact hq (3841, C 3841 + 1 + (z_cil kd 2 (q0 + 1)).1.length) (by simp) rfl
    · show z_le C (z_up (z_up (z_up (z_up (z_up C 3841 (C 3841 + 1)) 3585 (C 3585 + 1)) 3009 e') 3073 o') 3841 (C 3841 + 1 + (z_cil kd 2 (q0 + 1)).1.length))
      exact (((lu.up (by omega)).up (by omega)).up (by omega)).up (by omega)
    · show z_up (z_up (z_up (z_up (z_up C 3841 (C 3841 + 1)) 3585 (C 3585 + 1)) 3009 e') 3073 o') 3841 (C 3841 + 1 + (z_cil kd 2 (q0 + 1)).1.length) f = C f
      rw [z_up_n _ _ q3, z_up_n _ _ q2, z_up_n _ _ q1, z_up_n _ _ q4, z_up_n _ _ q3]
    · obtain ⟨q1, w1, -, w2⟩ := z_ndr_ok hq
      obtain ⟨y1, y2, y3⟩ := j14 q1 w1
      have yb : 2 * o' ≤ q1 + 1 ∧ e' ≤ o' ∧ 4 * (C 3841 + 1 + (z_cil kd 2 (q0 + 1)).1.length) ≤ q1 + 1 := by rw [w1] at j11; exact j11
      refine ⟨⟨?_, ?_, ?_⟩, by omega, ?_, ?_, ⟨C 3585, ?_, ?_, ?_⟩, ?_, j13, fun j hj => ⟨C 3841 + 1 + j, ?_, ?_, y1 j hj⟩⟩
      · show 2 * o' ≤ q + 1
        omega
      · exact yb.2.1
      · show 4 * (C 3841 + 1 + (z_cil kd 2 (q0 + 1)).1.length) ≤ q + 1
        omega
      · show C 3841 < C 3841 + 1 + (z_cil kd 2 (q0 + 1)).1.length
        omega
      · rw [(j5.2.2.1 (C 3841) (by omega)).1]; exact k284
      · show C 3585 < C 3585 + 1
        omega
      · rw [keep 3540 (by omega)]; exact k540
      · have := (d6 q3 q0 w5 o2).1
        rw [show z_pk (z_neh kd vl p) = q3 by rw [w5]; rfl]
        exact ⟨by rw [keep 3092 (by omega), e3.1]; exact this.1, by rw [keep 3156 (by omega), e3.1]; exact this.2⟩
      · rw [j12, Nat.zero_add]
      · show C 3841 + 1 + j < C 3841 + 1 + (z_cil kd 2 (q0 + 1)).1.length
        have : j < (z_cil kd 2 (q0 + 1)).1.length := hj
        omega
      · exact y2 j hj
end
