/-! THE ENGINE READS A PART: names, the head -/
/-- a name was laid at place i of the words W and the places Q -/
def E_np (pl : Nat → Nat) (W Q i : Nat) (r : z_P) (u v : g_St) : Prop := g_cnt v = g_cnt u ∧ g_R v = g_R u ∧ (∀ k a, a ≠ 2 → g_I v k a = g_I u k a) ∧ g_L v = g_L u ∧ g_ln v = g_ln u ∧ g_AR v = g_AR u ∧ (∀ a j, ¬ (a = W ∧ j = i) → g_AL v a j = g_AL u a j) ∧ (∀ a j, ¬ (a = Q ∧ j = i) → g_AI v a j = g_AI u a j) ∧ g_AI v Q i = Int32.ofNat (pl (z_pk r)) ∧ E_kp [W, Q] u v
theorem E_np.sm {pl : Nat → Nat} {W Q i : Nat} {r : z_P} {u v : g_St} (h : E_np pl W Q i r u v) {a : Nat} (h2 : a ≠ 2) (hW : a ≠ W) (hQ : a ≠ Q) : E_sm u v a := ⟨fun k => ⟨h.2.2.1 k a h2, by rw [h.2.2.2.1], by rw [h.2.1]⟩, funext fun j => h.2.2.2.2.2.2.2.1 a j (fun q => hQ q.1), funext fun j => h.2.2.2.2.2.2.1 a j (fun q => hW q.1), by rw [h.2.2.2.2.2.1], by rw [h.2.2.2.2.1]⟩
section
variable {n : Nat} {kd pl : Nat → Nat} {wd vl : Nat → Int64} {c : z_Cx}
theorem a_ni (Z : E_cx c) (H : z_H n kd) {u : g_St} {r : z_P} {w P W Q i : Nat} (h : E_b n kd pl wd c u r w) (nW : E_nw c W) (nQ : E_nw c Q) (r1 : g_R u 199 P = some W) (r2 : g_R u 263 P = some Q) (l1 : g_ln u W = 7) (l2 : g_ln u Q = 7) (hi : i < 7) : ∃ u', f_Re_nameInto (some 2) (some P) (Int32.ofNat i) u = some ((), u') ∧ E_b n kd pl wd c u' (z_ndr kd 36 r) w ∧ E_np pl W Q i r u u' ∧ ∀ p, r = .inr p → kd p = 36 → g_AL u' W i = wd p := by
  obtain ⟨p1, p2, p3, p4, p5, p6, -⟩ := a_pl H h
  obtain ⟨s5, e5⟩ : ∃ s5, s5 = g_setAI u Q i (Int32.ofNat (pl (z_pk r))) := ⟨_, rfl⟩
  have B5 : E_b n kd pl wd c s5 r w := by rw [e5]; exact h.sI Z nQ _ _
  obtain ⟨v, s8, a1, a2, a3, a4⟩ := a_nm Z H B5
  refine ⟨g_setAL s8 W i v, ?_, a2.sL Z nW _ _, ⟨?_, ?_, ?_, ?_, ?_, ?_, ?_, ?_, ?_, ?_⟩, fun p e1 e2 => ?_⟩
  · unfold f_Re_nameInto
    rw [x_gR, r2, x_gR, p1, x_gI, p3, x_aI (by omega) (by rw [p2]; omega), p6, x_sI (by omega) (by rw [l2]; exact hi), ← e5, x_gR, show g_R s5 199 P = some W from (by rw [e5]; exact r1), x_nn, a1, x_c, x_sL (by omega) (by rw [a3.2.2.2.2.2.2.2.2.1, e5]; show i < g_ln u W; rw [l1]; exact hi)]
  · show g_cnt s8 = _; rw [a3.1, e5]; rfl
  · show g_R s8 = _; rw [a3.2.2.2.2.1, e5]; rfl
  · intro k a ha
    show g_I s8 k a = _
    rw [a3.2.2.2.2.2.2.2.2.2 k a (fun q => ha q.1), e5]; rfl
  · show g_L s8 = _; rw [a3.2.2.2.1, e5]; rfl
  · show g_ln s8 = _; rw [a3.2.2.2.2.2.2.2.2.1, e5]; rfl
  · show g_AR s8 = _; rw [a3.2.2.2.2.2.2.2.1, e5]; rfl
  · intro a j q
    rw [x_AL_AL, if_neg q, a3.2.2.2.2.2.2.1, e5]; rfl
  · intro a j q
    show g_AI s8 a j = _
    rw [a3.2.2.2.2.2.1, e5, x_AI_AI, if_neg q]
  · show g_AI s8 Q i = _
    rw [a3.2.2.2.2.2.1, e5, x_AI_AI, if_pos ⟨rfl, rfl⟩]
  · have k5 : E_kp [W, Q] u s5 := by rw [e5]; exact E_kp.re.sI ⟨nQ.ne2, Or.inl (by simp)⟩ _ _
    exact (k5.trans (a3.kp [W, Q]) (fun a ha => Or.inl ha)).sL ⟨nW.ne2, Or.inl (by simp)⟩ _ _
  · rw [x_AL_AL, if_pos ⟨rfl, rfl⟩]; exact a4 p e1 e2
/-- a part is made -/
theorem a_newp (Z : E_cx c) {u : g_St} {r : z_P} {w : Nat} (h : E_b n kd pl wd c u r w) (hw : w ≤ 1265) : ∃ s, (∀ {α : Type} (F : Option Nat → g_St → Option α), (g_new u 7 18 fun p1 s2 => g_c (g_nn p1 (f_Pa_init p1 s2)) fun _ s4 => F p1 s4) = F (some (g_cnt u 7 * 64 + 7)) s) ∧ E_b n kd pl wd c s r (w + 1) ∧ E_fr u s ∧ (∀ t, g_cnt s t = if t = 7 ∨ t = 21 ∨ t = 20 ∨ t = 25 then g_cnt u t + 1 else g_cnt u t) ∧ (∀ k, g_R s k (g_cnt u 7 * 64 + 7) = if k = 647 then some (g_cnt u 25 * 64 + 25) else if k = 263 then some (g_cnt u 20 * 64 + 20) else if k = 199 then some (g_cnt u 21 * 64 + 21) else none) ∧ (∀ k, g_I s k (g_cnt u 7 * 64 + 7) = if k = 1095 then -1 else if k = 1031 then -1 else if k = 903 then -1 else 0) ∧ (g_ln s (g_cnt u 21 * 64 + 21) = 7 ∧ g_ln s (g_cnt u 20 * 64 + 20) = 7 ∧ g_ln s (g_cnt u 25 * 64 + 25) = 4) ∧ ∀ m, g_AL s (g_cnt u 21 * 64 + 21) m = 0 := by
  have rm := h.room Z (by omega)
  obtain ⟨P, hP⟩ : ∃ S, S = g_cnt u 7 * 64 + 7 := ⟨_, rfl⟩
  obtain ⟨W, hW⟩ : ∃ I, I = g_cnt u 21 * 64 + 21 := ⟨_, rfl⟩
  obtain ⟨Q, hQ⟩ : ∃ G, G = g_cnt u 20 * 64 + 20 := ⟨_, rfl⟩
  obtain ⟨L, hL⟩ : ∃ Sr, Sr = g_cnt u 25 * 64 + 25 := ⟨_, rfl⟩
  obtain ⟨s0, e0⟩ : ∃ s, s = g_mk u 7 18 0 := ⟨_, rfl⟩
  obtain ⟨s1, e1⟩ : ∃ s, s = g_setR (g_mk s0 21 7 7) 199 P (some W) := ⟨_, rfl⟩
  obtain ⟨s2, e2⟩ : ∃ s, s = g_setR (g_mk s1 20 7 7) 263 P (some Q) := ⟨_, rfl⟩
  obtain ⟨s3, e3⟩ : ∃ s, s = g_setR (g_mk s2 25 4 4) 647 P (some L) := ⟨_, rfl⟩
  obtain ⟨s5, e5⟩ : ∃ s, s = g_setI (g_setI (g_setI s3 903 P (-1)) 1031 P (-1)) 1095 P (-1) := ⟨_, rfl⟩
  have c0 : ∀ t, g_cnt s0 t = if t = 7 then g_cnt u 7 + 1 else g_cnt u t := fun t => by rw [e0]; exact x_cnt_mk u 7 18 0 t
  have c1 : ∀ t, g_cnt s1 t = if t = 21 then g_cnt s0 21 + 1 else g_cnt s0 t := fun t => by rw [e1]; exact x_cnt_mk s0 21 7 7 t
  have c2 : ∀ t, g_cnt s2 t = if t = 20 then g_cnt s1 20 + 1 else g_cnt s1 t := fun t => by rw [e2]; exact x_cnt_mk s1 20 7 7 t
  have c3 : ∀ t, g_cnt s3 t = if t = 25 then g_cnt s2 25 + 1 else g_cnt s2 t := fun t => by rw [e3]; exact x_cnt_mk s2 25 4 4 t
  have c5 : ∀ t, g_cnt s5 t = g_cnt s3 t := fun t => by rw [e5]; rfl
  have b21 : g_cnt s0 21 = g_cnt u 21 := by rw [c0, if_neg (by decide)]
  have b20 : g_cnt s1 20 = g_cnt u 20 := by rw [c1, if_neg (by decide), c0, if_neg (by decide)]
  have b25 : g_cnt s2 25 = g_cnt u 25 := by rw [c2, if_neg (by decide), c1, if_neg (by decide), c0, if_neg (by decide)]
  have n0 : g_cnt s0 21 * 64 + 21 = W := by rw [b21, hW]
  have n1 : g_cnt s1 20 * 64 + 20 = Q := by rw [b20, hQ]
  have n2 : g_cnt s2 25 * 64 + 25 = L := by rw [b25, hL]
  have nP : ¬ g_al u P := by rw [hP]; exact E_nal (by decide)
  have fr : E_fr u s5 := by
    rw [e5, e3, e2, e1, e0]
    exact (((((((((E_fr.re.mk (by decide) 18 0).mk (by decide) 7 7).pR nP _ _).mk (by decide) 7 7).pR nP _ _).mk (by decide) 4 4).pR nP _ _).pI nP _ _).pI nP _ _).pI nP _ _
  have ini : f_Pa_init (some P) s0 = some ((), s5) := by
    unfold f_Pa_init
    rw [x_nn, show (7 : Int32) = Int32.ofNat 7 from rfl, x_newA (by decide) (by rw [e0]; show g_cn u + 1 < _; omega) (by rw [e0]; show g_sn u + 18 + 7 ≤ _; omega), n0, x_pR, ← e1, x_newA (by decide) (by rw [e1, e0]; show g_cn u + 1 + 1 < _; omega) (by rw [e1, e0]; show g_sn u + 18 + 7 + 7 ≤ _; omega), n1, x_pR, ← e2, show (4 : Int32) = Int32.ofNat 4 from rfl, x_newA (by decide) (by rw [e2, e1, e0]; show g_cn u + 1 + 1 + 1 < _; omega) (by rw [e2, e1, e0]; show g_sn u + 18 + 7 + 7 + 4 ≤ _; omega), n2, x_pR, ← e3, x_pI, x_pI, x_pI, ← e5]
  have o0 : z_Ok s0 := by rw [e0]; exact h.2.2.2.1.mk (by decide) _ _
  have os : z_Ok s5 := (v_Pa_init (u := s0) (some P) s0 z_V.re ini).2.2.2.2 o0
  have ct : ∀ t, g_cnt s5 t = if t = 7 ∨ t = 21 ∨ t = 20 ∨ t = 25 then g_cnt u t + 1 else g_cnt u t := fun t => by
    rw [c5, c3 t, b25]
    by_cases y2 : t = 25
    · rw [if_pos y2, if_pos (by omega), y2]
    · rw [if_neg y2, c2 t, b20]
      by_cases y3 : t = 20
      · rw [if_pos y3, if_pos (by omega), y3]
      · rw [if_neg y3, c1 t, b21]
        by_cases y4 : t = 21
        · rw [if_pos y4, if_pos (by omega), y4]
        · rw [if_neg y4, c0 t]
          by_cases y5 : t = 7
          · rw [if_pos y5, if_pos (by omega), y5]
          · rw [if_neg y5, if_neg (by omega)]
  rw [← hP, ← hW, ← hQ, ← hL]
  refine ⟨s5, fun F => ?_, ?_, fr, ct, fun k => ?_, fun k => ?_, ⟨?_, ?_, ?_⟩, fun m => ?_⟩
  · rw [x_new (by omega) (by omega), ← hP, ← e0, x_nn, ini, x_c]
  · have := h.2.2.2.2.2.2.1
    refine h.fr Z fr os (by rw [ct, if_neg (by decide)]) (by rw [ct, if_neg (by decide)]) (by omega) ?_ ?_
    · rw [e5, e3, e2, e1, e0]; show g_cn u + 1 + 1 + 1 + 1 ≤ _; omega
    · rw [e5, e3, e2, e1, e0]; show g_sn u + 18 + 7 + 7 + 4 ≤ _; omega
  · rw [e5]
    show g_R s3 k P = _
    rw [e3, x_R_R]
    show (if _ then _ else g_R (g_mk s2 25 4 4) k P) = _
    rw [x_R_mk, n2, if_neg (show P ≠ L by omega), e2, x_R_R]
    show (if _ then _ else if _ then _ else g_R (g_mk s1 20 7 7) k P) = _
    rw [x_R_mk, n1, if_neg (show P ≠ Q by omega), e1, x_R_R]
    show (if _ then _ else if _ then _ else if _ then _ else g_R (g_mk s0 21 7 7) k P) = _
    rw [x_R_mk, n0, if_neg (show P ≠ W by omega), e0, x_R_mk, if_pos hP]
    by_cases y2 : k = 647
    · rw [if_pos ⟨y2, rfl⟩, if_pos y2]
    · rw [if_neg (fun q => y2 q.1), if_neg y2]
      by_cases y3 : k = 263
      · rw [if_pos ⟨y3, rfl⟩, if_pos y3]
      · rw [if_neg (fun q => y3 q.1), if_neg y3]
        by_cases y4 : k = 199
        · rw [if_pos ⟨y4, rfl⟩, if_pos y4]
        · rw [if_neg (fun q => y4 q.1), if_neg y4]
  · have i3 : g_I s3 k P = 0 := by
      rw [e3]
      show g_I (g_mk s2 25 4 4) k P = 0
      rw [x_I_mk, n2, if_neg (show P ≠ L by omega), e2]
      show g_I (g_mk s1 20 7 7) k P = 0
      rw [x_I_mk, n1, if_neg (show P ≠ Q by omega), e1]
      show g_I (g_mk s0 21 7 7) k P = 0
      rw [x_I_mk, n0, if_neg (show P ≠ W by omega), e0, x_I_mk, if_pos hP]
    rw [e5, x_I_I, x_I_I, x_I_I, i3]
    by_cases y1 : k = 1095
    · rw [if_pos ⟨y1, rfl⟩, if_pos y1]
    · rw [if_neg (fun q => y1 q.1), if_neg y1]
      by_cases y2 : k = 1031
      · rw [if_pos ⟨y2, rfl⟩, if_pos y2]
      · rw [if_neg (fun q => y2 q.1), if_neg y2]
        by_cases y3 : k = 903
        · rw [if_pos ⟨y3, rfl⟩, if_pos y3]
        · rw [if_neg (fun q => y3 q.1), if_neg y3]
  · rw [e5, e3]
    show g_ln (g_mk s2 25 4 4) W = 7
    rw [x_ln_mk, n2, if_neg (show W ≠ L by omega), e2]
    show g_ln (g_mk s1 20 7 7) W = 7
    rw [x_ln_mk, n1, if_neg (show W ≠ Q by omega), e1]
    show g_ln (g_mk s0 21 7 7) W = 7
    rw [x_ln_mk, n0, if_pos rfl]
  · rw [e5, e3]
    show g_ln (g_mk s2 25 4 4) Q = 7
    rw [x_ln_mk, n2, if_neg (show Q ≠ L by omega), e2]
    show g_ln (g_mk s1 20 7 7) Q = 7
    rw [x_ln_mk, n1, if_pos rfl]
  · rw [e5, e3]
    show g_ln (g_mk s2 25 4 4) L = 4
    rw [x_ln_mk, n2, if_pos rfl]
  · rw [e5, e3]
    show g_AL (g_mk s2 25 4 4) W m = 0
    rw [x_AL_mk, n2, if_neg (show W ≠ L by omega), e2]
    show g_AL (g_mk s1 20 7 7) W m = 0
    rw [x_AL_mk, n1, if_neg (show W ≠ Q by omega), e1]
    show g_AL (g_mk s0 21 7 7) W m = 0
    rw [x_AL_mk, n0, if_pos rfl]
end
