/-! THE ENGINE READS A PART: the head -/
def E_pA (c : z_Cx) (u : g_St) (P W Q L : Nat) : Prop := (P % 64 = 7 ∧ W % 64 = 21 ∧ Q % 64 = 20 ∧ L % 64 = 25) ∧ (E_nw c P ∧ E_nw c W ∧ E_nw c Q ∧ E_nw c L) ∧ (g_al u P ∧ g_al u W ∧ g_al u Q ∧ g_al u L) ∧ (g_R u 199 P = some W ∧ g_R u 263 P = some Q ∧ g_R u 647 P = some L) ∧ (g_ln u W = 7 ∧ g_ln u Q = 7 ∧ g_ln u L = 4)
theorem E_pA.of {c : z_Cx} {u v : g_St} {P W Q L : Nat} (h : E_pA c u P W Q L) (hc : ∀ t, g_cnt u t ≤ g_cnt v t) (h1 : ∀ k, g_R v k P = g_R u k P) (h2 : g_ln v W = g_ln u W ∧ g_ln v Q = g_ln u Q ∧ g_ln v L = g_ln u L) : E_pA c v P W Q L := by
  obtain ⟨a1, a2, ⟨b1, b2, b3, b4⟩, ⟨c1, c2, c3⟩, d1, d2, d3⟩ := h
  exact ⟨a1, a2, ⟨E_alm hc b1, E_alm hc b2, E_alm hc b3, E_alm hc b4⟩, ⟨by rw [h1]; exact c1, by rw [h1]; exact c2, by rw [h1]; exact c3⟩, by rw [h2.1]; exact d1, by rw [h2.2.1]; exact d2, by rw [h2.2.2]; exact d3⟩
/-- the head's frame, and its columns -/
def E_hf (P W Q : Nat) (u0 s : g_St) : Prop := E_kp [P, W, Q] u0 s ∧ g_cnt s = g_cnt u0 ∧ g_R s = g_R u0 ∧ (∀ k a, a ≠ 2 → ¬ (a = P ∧ k = 135) → g_I s k a = g_I u0 k a) ∧ g_L s = g_L u0 ∧ g_ln s = g_ln u0 ∧ g_AR s = g_AR u0 ∧ ∀ j, 3 ≤ j → g_AL s W j = g_AL u0 W j
def E_hc (pl : Nat → Nat) (wd : Nat → Int64) (P W Q : Nat) (s : g_St) (l : List Nat) : Prop := g_I s 135 P = Int32.ofNat l.length ∧ (∀ j, j < l.length → g_AL s W j = wd (l.getD j 0) ∧ g_AI s Q j = Int32.ofNat (pl (l.getD j 0))) ∧ ∀ j, l.length ≤ j → g_AL s W j = 0
theorem E_hf.as {P W Q : Nat} {u0 s t : g_St} (h : E_hf P W Q u0 s) (g : E_as s t) : E_hf P W Q u0 t :=
  ⟨h.1.trans (g.kp [P, W, Q]) (fun a ha => Or.inl ha), by rw [g.1]; exact h.2.1, by rw [g.2.2.2.2.1]; exact h.2.2.1, fun k a x y => by rw [g.2.2.2.2.2.2.2.2.2 k a (fun q => x q.1)]; exact h.2.2.2.1 k a x y, by rw [g.2.2.2.1]; exact h.2.2.2.2.1, by rw [g.2.2.2.2.2.2.2.2.1]; exact h.2.2.2.2.2.1, by rw [g.2.2.2.2.2.2.2.1]; exact h.2.2.2.2.2.2.1, fun j hj => by rw [g.2.2.2.2.2.2.1]; exact h.2.2.2.2.2.2.2 j hj⟩
theorem E_hc.as {pl : Nat → Nat} {wd : Nat → Int64} {P W Q : Nat} {s t : g_St} {l : List Nat} (h : E_hc pl wd P W Q s l) (g : E_as s t) (hP : P ≠ 2) : E_hc pl wd P W Q t l :=
  ⟨by rw [((g.sm hP).1 _).1]; exact h.1, fun j hj => by rw [g.2.2.2.2.2.2.1, g.2.2.2.2.2.1]; exact h.2.1 j hj, fun j hj => by rw [g.2.2.2.2.2.2.1]; exact h.2.2 j hj⟩
section
variable {n : Nat} {kd pl : Nat → Nat} {wd vl : Nat → Int64} {c : z_Cx} {P W Q L : Nat} {u0 : g_St}
/-- a column, stuck or not -/
theorem a_col (Z : E_cx c) (H : z_H n kd) (hA : E_pA c u0 P W Q L) {r : z_P} {w : Nat} {l : List Nat} {u : g_St} (hl : l.length ≤ 2) (hb : E_b n kd pl wd c u r w) (hf : E_hf P W Q u0 u) (hc : E_hc pl wd P W Q u l) : ∃ s t, f_Re_nameInto (some 2) (some P) (Int32.ofNat l.length) u = some ((), t) ∧ s = g_setI t 135 P (Int32.ofNat (l.length + 1)) ∧ E_b n kd pl wd c s (z_ndr kd 36 r) w ∧ E_hf P W Q u0 s ∧ ∀ p, r = .inr p → kd p = 36 → E_hc pl wd P W Q s (l ++ [p]) := by
  obtain ⟨⟨m1, m2, m3, m4⟩, ⟨n1, n2, n3, n4⟩, ⟨b1, b2, b3, b4⟩, ⟨c1, c2, c3⟩, d1, d2, d3⟩ := hA
  obtain ⟨f1, f2, f3, f4, f5, f6, f7, f8⟩ := hf
  obtain ⟨g1, g2, g3⟩ := hc
  have P2 : P ≠ 2 := n1.ne2
  obtain ⟨t, a1, a2, a3, a4⟩ := a_ni Z H hb n2 n3 (P := P) (i := l.length) (by rw [f3]; exact c1) (by rw [f3]; exact c2) (by rw [f6]; exact d1) (by rw [f6]; exact d2) (by omega)
  obtain ⟨k1, k2, k3, k4, k5, k6, k7, k8, k9, k10⟩ := a3
  refine ⟨_, t, a1, rfl, a2.pI Z n1 _ _, ⟨?_, k1.trans f2, k2.trans f3, fun k a x y => ?_, k4.trans f5, k5.trans f6, k6.trans f7, fun j hj => (k7 W j (fun q => by have := q.2; omega)).trans (f8 j hj)⟩, fun p e1 e2 => ?_⟩
  · refine (f1.trans k10 (fun a ha => Or.inl ?_)).pI ⟨P2, Or.inl (by simp)⟩ _ _
    simp only [List.mem_cons, List.not_mem_nil, or_false] at ha ⊢
    omega
  · rw [x_I_I, if_neg (fun q => y ⟨q.2, q.1⟩), k3 k a x]
    exact f4 k a x y
  · have ln : (l ++ [p]).length = l.length + 1 := by rw [List.length_append, List.length_singleton]
    have pk : z_pk r = p := by rw [e1]; rfl
    refine ⟨by rw [ln, x_I_I, if_pos ⟨rfl, rfl⟩], fun j hj => ?_, fun j hj => ?_⟩
    · rw [ln] at hj
      show g_AL t W j = _ ∧ g_AI t Q j = _
      by_cases y : j < l.length
      · rw [z_getD_l y, k7 W j (fun q => by have := q.2; omega), k8 Q j (fun q => by have := q.2; omega)]
        exact g2 j y
      · have ej : j = l.length := by omega
        rw [ej, z_getD_e, k9, pk]
        exact ⟨a4 p e1 e2, rfl⟩
    · rw [ln] at hj
      show g_AL t W j = 0
      rw [k7 W j (fun q => by have := q.2; omega)]
      exact g3 j (by omega)
theorem a_cols (Z : E_cx c) (H : z_H n kd) (hA : E_pA c u0 P W Q L) {d : Nat} {r : z_P} (hb : E_b n kd pl wd c u0 r (3 * z_pk r + d)) (h0 : ∀ j, g_AL u0 W j = 0) (h135 : g_I u0 135 P = 0) : ∃ u', f_Re_head_40 200000 (some 2) (some P) 1 0 u0 = f_Re_head_91 (some 2) (some P) u' ∧ E_b n kd pl wd c u' (z_go r (z_lst kd 25 (z_col kd) 2)).2 (3 * z_pk (z_go r (z_lst kd 25 (z_col kd) 2)).2 + d) ∧ E_hf P W Q u0 u' ∧ z_pk r ≤ z_pk (z_go r (z_lst kd 25 (z_col kd) 2)).2 ∧ (z_go r (z_lst kd 25 (z_col kd) 2)).1.length ≤ 3 ∧ ∀ q, (z_go r (z_lst kd 25 (z_col kd) 2)).2 = .inr q → E_hc pl wd P W Q u' (z_go r (z_lst kd 25 (z_col kd) 2)).1 := by
  have P2 : P ≠ 2 := hA.2.1.1.ne2
  have hf0 : E_hf P W Q u0 u0 := ⟨E_kp.re, rfl, rfl, fun _ _ _ _ => rfl, rfl, rfl, rfl, fun _ _ => rfl⟩
  have hc0 : E_hc pl wd P W Q u0 [] := ⟨h135, (fun j hj => by cases hj), fun j _ => h0 j⟩
  cases r with
  | inl q =>
    obtain ⟨s, t, a1, a2, a3, a4, a5⟩ := a_col Z H hA (l := []) (by show 0 ≤ 2; omega) hb hf0 hc0
    rw [z_go_l]
    refine ⟨s, ?_, a3, a4, Nat.le_refl _, Nat.zero_le _, fun q w => by cases w⟩
    have a1' : f_Re_nameInto (some 2) (some P) 0 u0 = some ((), t) := a1
    have a2' : s = g_setI t 135 P (0 + 1) := a2
    rw [f_Re_head_40, if_neg (by decide), if_neg (by decide), x_nn, a1', x_c, x_pI, ← a2', if_neg (by decide), x_nn, pE_acceptS a3.2.2.1.1, x_c, if_pos rfl, f_Re_head_40, if_neg (by decide), if_pos rfl]
  | inr p0 =>
    rw [z_go_r]
    have key := a_loop (kd := kd) (fun f x i s => f_Re_head_40 f (some 2) (some P) x (Int32.ofNat i) s) (f_Re_head_91 (some 2) (some P)) (f_Re_accept (some 2) (some 1613)) 25 (z_col kd) 2 (fun p l s => E_b n kd pl wd c s (.inr p) (3 * p + d) ∧ E_hf P W Q u0 s ∧ p0 ≤ p ∧ E_hc pl wd P W Q s l) (fun r l s => E_b n kd pl wd c s r (3 * z_pk r + d) ∧ E_hf P W Q u0 s ∧ p0 ≤ z_pk r ∧ ∀ q, r = .inr q → E_hc pl wd P W Q s l)
      (fun f i s => ?_) (fun r l s hJ => ?_) (fun p l u f hl hJ => ?_) 2 p0 [] u0 200000 rfl (by omega) ⟨hb, hf0, Nat.le_refl _, hc0⟩
    · obtain ⟨u', b1, ⟨b2, b3, b4, b5⟩, b6⟩ := key
      exact ⟨u', b1, b2, b3, b4, b6, b5⟩
    · show f_Re_head_40 (f + 1) (some 2) (some P) 0 (Int32.ofNat i) s = _
      rw [f_Re_head_40]
      by_cases w : 3 ≤ Int32.ofNat i
      · rw [if_pos w]
      · rw [if_neg w, if_pos rfl]
    · obtain ⟨b1, b2, b3, b4⟩ := hJ
      obtain ⟨t, x1, x2, x3⟩ := a_ac Z H b1 (k := 25) (by decide)
      refine ⟨t, x1, fun w => ?_, fun q e1 e2 => ?_⟩
      · rw [z_skr_false w] at x2
        exact ⟨x2, b2.as x3, b3, fun q e => (b4 q e).as x3 P2⟩
      · rw [e1] at x2 b3
        rw [z_skr_t e2] at x2
        have b3' : p0 ≤ q := b3
        exact ⟨x2.mono (by show 3 * q + d ≤ 3 * (q + 1) + d; omega), b2.as x3, by omega, (b4 q e1).as x3 P2⟩
    · obtain ⟨b1, b2, b3, b4⟩ := hJ
      obtain ⟨s, t, a1, a2, a3, a4, a5⟩ := a_col Z H hA hl b1 b2 b4
      have pk : p ≤ z_pk (z_ndr kd 36 (.inr p)) := z_pk_nd (kd := kd) 36 (.inr p)
      refine ⟨s, ?_, a3.mono (by show 3 * p + d ≤ 3 * z_pk (z_ndr kd 36 (.inr p)) + d; omega), a4, Nat.le_trans b3 pk, fun q hq => ?_⟩
      · show f_Re_head_40 (f + 1) (some 2) (some P) 1 (Int32.ofNat l.length) u = _
        rw [f_Re_head_40, if_neg (show ¬ (3 : Int32) ≤ Int32.ofNat l.length from by rw [show (3 : Int32) = Int32.ofNat 3 from rfl, x_le (by omega) (by omega)]; omega), if_neg (by decide), x_nn, a1, x_c, x_p1, x_pI, ← a2]
        have e4 : (3 ≤ Int32.ofNat (l.length + 1)) = (3 ≤ l.length + 1) := x_le (a := 3) (by decide) (by omega)
        by_cases w : 2 ≤ l.length
        · rw [if_pos w, if_pos (by rw [e4]; omega)]
        · rw [if_neg w, if_neg (by rw [e4]; omega), x_nn]
      · obtain ⟨p', y1, y2, -⟩ := z_ndr_ok (show z_ndr kd 36 (.inr p) = .inr q from hq)
        cases y1
        exact a5 p rfl y2
end
section
variable {n : Nat} {kd pl : Nat → Nat} {wd vl : Nat → Int64} {c : z_Cx}
/-- where the head ends -/
def z_hd1 (kd : Nat → Nat) (r : z_P) : List Nat × z_P := z_go (z_ndr kd 26 (z_ndr kd 36 r)) (z_lst kd 25 (z_col kd) 2)
def z_hd2 (kd : Nat → Nat) (r : z_P) : z_P := z_ndr kd 26 (z_ndr kd 2 (z_ndr kd 27 (z_hd1 kd r).2))
theorem a_hd (Z : E_cx c) (H : z_H n kd) {u : g_St} {r : z_P} {d : Nat} (h : E_b n kd pl wd c u r (3 * z_pk r + d)) (hd : d ≤ 39) : ∃ u', f_Re_head (some 2) u = some (some (g_cnt u 7 * 64 + 7), u') ∧ E_b n kd pl wd c u' (z_hd2 kd r) (3 * z_pk (z_hd2 kd r) + d + z_sl (z_hd2 kd r) 1) ∧ E_kp [] u u' ∧ (∀ t, g_cnt u' t = if t = 7 ∨ t = 21 ∨ t = 20 ∨ t = 25 then g_cnt u t + 1 else g_cnt u t) ∧ z_pk r ≤ z_pk (z_hd2 kd r) ∧ E_pA c u' (g_cnt u 7 * 64 + 7) (g_cnt u 21 * 64 + 21) (g_cnt u 20 * 64 + 20) (g_cnt u 25 * 64 + 25) ∧ (∀ k, k ≠ 71 → k ≠ 135 → g_I u' k (g_cnt u 7 * 64 + 7) = if k = 1095 then -1 else if k = 1031 then -1 else if k = 903 then -1 else 0) ∧ (z_hd1 kd r).1.length ≤ 3 ∧ (∀ j, 3 ≤ j → g_AL u' (g_cnt u 21 * 64 + 21) j = 0) ∧ ∀ p q, r = .inr p → z_hd2 kd r = .inr q → kd p = 36 ∧ g_L u' 7 (g_cnt u 7 * 64 + 7) = wd p ∧ g_I u' 71 (g_cnt u 7 * 64 + 7) = Int32.ofNat (pl p) ∧ E_hc pl wd (g_cnt u 7 * 64 + 7) (g_cnt u 21 * 64 + 21) (g_cnt u 20 * 64 + 20) u' (z_hd1 kd r).1 := by
  have hn := H.2.1
  have hp4 := (a_pl H h).2.2.2.1
  have au := h.a2 Z
  obtain ⟨s4, m1, m2, m3, m4, m5, m6, m7, m8⟩ := a_newp Z h (by omega)
  obtain ⟨P, hP⟩ : ∃ S, S = g_cnt u 7 * 64 + 7 := ⟨_, rfl⟩
  obtain ⟨W, hW⟩ : ∃ I, I = g_cnt u 21 * 64 + 21 := ⟨_, rfl⟩
  obtain ⟨Q, hQ⟩ : ∃ G, G = g_cnt u 20 * 64 + 20 := ⟨_, rfl⟩
  obtain ⟨L, hL⟩ : ∃ Sr, Sr = g_cnt u 25 * 64 + 25 := ⟨_, rfl⟩
  rw [← hP, ← hW, ← hQ, ← hL] at m5
  rw [← hP] at m6
  rw [← hW, ← hQ, ← hL] at m7
  rw [← hW] at m8
  rw [← hP, ← hW, ← hQ, ← hL]
  have P2 : P ≠ 2 := by omega
  have nP : E_nw c P := by rw [hP]; exact h.new Z (by decide)
  have okP : E_ok [] u P := ⟨P2, Or.inr (Or.inr (Or.inr (by rw [hP]; exact E_nal (by decide))))⟩
  obtain ⟨p1, p2, p3, p4, p5, p6, -⟩ := a_pl H m2
  obtain ⟨s8, e8⟩ : ∃ s8, s8 = g_setI s4 71 P (Int32.ofNat (pl (z_pk r))) := ⟨_, rfl⟩
  have B8 : E_b n kd pl wd c s8 r (3 * z_pk r + d + 1) := by rw [e8]; exact m2.pI Z nP _ _
  obtain ⟨v, s10, a1, a2, a3, a4⟩ := a_nm Z H B8
  obtain ⟨s11, e11⟩ : ∃ s11, s11 = g_setL s10 7 P v := ⟨_, rfl⟩
  have B11 : E_b n kd pl wd c s11 (z_ndr kd 36 r) (3 * z_pk r + d + 1) := by rw [e11]; exact a2.pL Z nP (by decide) _
  obtain ⟨u0, b1, b2, b3⟩ := a_ex Z H B11 (k := 26) (by decide)
  have c0 : ∀ t, g_cnt u0 t = g_cnt s4 t := fun t => by rw [b3.1, e11]; show g_cnt s10 t = _; rw [a3.1, e8]; rfl
  have R0 : g_R u0 = g_R s4 := by rw [b3.2.2.2.2.1, e11]; show g_R s10 = _; rw [a3.2.2.2.2.1, e8]; rfl
  have ln0 : g_ln u0 = g_ln s4 := by rw [b3.2.2.2.2.2.2.2.2.1, e11]; show g_ln s10 = _; rw [a3.2.2.2.2.2.2.2.2.1, e8]; rfl
  have AL0 : g_AL u0 = g_AL s4 := by rw [b3.2.2.2.2.2.2.1, e11]; show g_AL s10 = _; rw [a3.2.2.2.2.2.2.1, e8]; rfl
  have I0 : ∀ k, g_I u0 k P = if k = 71 then Int32.ofNat (pl (z_pk r)) else g_I s4 k P := fun k => by
    rw [((b3.sm P2).1 k).1, e11]
    show g_I s10 k P = _
    rw [((a3.sm P2).1 k).1, e8, x_I_I]
    by_cases y : k = 71
    · rw [if_pos ⟨y, rfl⟩, if_pos y]
    · rw [if_neg (fun q => y q.1), if_neg y]
  have L0 : g_L u0 7 P = v := by rw [((b3.sm P2).1 7).2.1, e11, x_L_L, if_pos ⟨rfl, rfl⟩]
  have nw : ∀ t, t < 64 ∧ t ≠ 2 ∧ t ≠ 12 ∧ t ≠ 30 → E_nw c (g_cnt u t * 64 + t) := fun t ht => h.new Z ht
  have al0 : ∀ t, t = 7 ∨ t = 21 ∨ t = 20 ∨ t = 25 → g_al u0 (g_cnt u t * 64 + t) := fun t ht => by rw [E_alc (by omega), c0, m4, if_pos ht]; omega
  have hA : E_pA c u0 P W Q L := by
    refine ⟨⟨by rw [hP]; exact (E_num (by decide)).2, by rw [hW]; exact (E_num (by decide)).2, by rw [hQ]; exact (E_num (by decide)).2, by rw [hL]; exact (E_num (by decide)).2⟩, ⟨nP, by rw [hW]; exact nw 21 (by decide), by rw [hQ]; exact nw 20 (by decide), by rw [hL]; exact nw 25 (by decide)⟩, ⟨by rw [hP]; exact al0 7 (by omega), by rw [hW]; exact al0 21 (by omega), by rw [hQ]; exact al0 20 (by omega), by rw [hL]; exact al0 25 (by omega)⟩, ⟨by rw [R0, m5, if_neg (by decide), if_neg (by decide), if_pos rfl], by rw [R0, m5, if_neg (by decide), if_pos rfl], by rw [R0, m5, if_pos rfl]⟩, by rw [ln0]; exact m7⟩
  have pk0 : z_pk r ≤ z_pk (z_ndr kd 26 (z_ndr kd 36 r)) := Nat.le_trans (z_pk_nd _ _) (z_pk_nd _ _)
  obtain ⟨e0, he0⟩ : ∃ e0, e0 = (match z_ndr kd 26 (z_ndr kd 36 r) with | .inl _ => d + 1 | .inr _ => d) := ⟨_, rfl⟩
  have B0 : E_b n kd pl wd c u0 (z_ndr kd 26 (z_ndr kd 36 r)) (3 * z_pk (z_ndr kd 26 (z_ndr kd 36 r)) + e0) := by
    refine b2.mono ?_
    cases hz : z_ndr kd 26 (z_ndr kd 36 r) with
    | inl q =>
      rw [hz] at he0 pk0
      have : z_pk r ≤ q := pk0
      rw [he0]
      show _ ≤ 3 * q + (d + 1)
      omega
    | inr q =>
      obtain ⟨x1, y1, -, y2⟩ := z_ndr_ok hz
      obtain ⟨x2, y3, -, y4⟩ := z_ndr_ok y1
      rw [hz] at he0
      rw [he0, y3]
      show 3 * x2 + d + 1 ≤ 3 * q + d
      omega
  obtain ⟨u1, d1, d2, d3, d4, d5, d6⟩ := a_cols Z H hA B0 (fun j => by rw [AL0]; exact m8 j) (by rw [I0, if_neg (by decide), m6, if_neg (by decide), if_neg (by decide), if_neg (by decide)])
  have eh : z_go (z_ndr kd 26 (z_ndr kd 36 r)) (z_lst kd 25 (z_col kd) 2) = z_hd1 kd r := rfl
  rw [eh] at d2 d4 d5 d6
  obtain ⟨t1, f1, f2, f3⟩ := a_ex Z H d2 (k := 27) (by decide)
  obtain ⟨t2, g1, g2, g3⟩ := a_ex Z H f2 (k := 2) (by decide)
  obtain ⟨u', k1, k2, k3⟩ := a_ex Z H g2 (k := 26) (by decide)
  have A := (f3.trans g3).trans k3
  have st : f_Re_head (some 2) u = some (some P, u') := by
    unfold f_Re_head
    refine (m1 _).trans ?_
    rw [← hP, x_gR, p1, x_gI, p3, x_aI (by omega) (by rw [p2]; omega), p6, x_pI, ← e8, x_nn, a1, x_c, x_pL, ← e11, x_nn, show (1677 : Nat) = 26 * 64 + 13 from rfl, b1, x_c, d1]
    unfold f_Re_head_91
    rw [x_nn, show (1741 : Nat) = 27 * 64 + 13 from rfl, f1, x_c, x_nn, show (141 : Nat) = 2 * 64 + 13 from rfl, g1, x_c, x_nn, show (1677 : Nat) = 26 * 64 + 13 from rfl, k1, x_c]
  have hfu := d3.as A
  have K0 : E_kp [] u u0 := by
    have y8 : E_kp [] u s8 := by rw [e8]; exact (m3.kp au []).pI okP _ _
    have y11 : E_kp [] u s11 := by rw [e11]; exact (y8.trans (a3.kp []) (fun a ha => by cases ha)).pL okP _ _
    exact y11.trans (b3.kp []) (fun a ha => by cases ha)
  have nal : ∀ a ∈ [P, W, Q], ¬ g_al u a := fun a ha => by
    simp only [List.mem_cons, List.not_mem_nil, or_false] at ha
    rcases ha with e | e | e
    · rw [e, hP]; exact E_nal (by decide)
    · rw [e, hW]; exact E_nal (by decide)
    · rw [e, hQ]; exact E_nal (by decide)
  have pk2 : z_pk (z_hd1 kd r).2 ≤ z_pk (z_hd2 kd r) := Nat.le_trans (z_pk_nd _ _) (Nat.le_trans (z_pk_nd _ _) (z_pk_nd _ _))
  refine ⟨u', st, ?_, K0.trans hfu.1 (fun a ha => Or.inr (nal a ha)), fun t => by rw [hfu.2.1, c0, m4], by omega, hA.of (fun t => by rw [hfu.2.1]; exact Nat.le_refl _) (fun k => by rw [hfu.2.2.1]) ⟨by rw [hfu.2.2.2.2.2.1], by rw [hfu.2.2.2.2.2.1], by rw [hfu.2.2.2.2.2.1]⟩, fun k x y => ?_, d5, fun j hj => by rw [hfu.2.2.2.2.2.2.2 j hj, AL0]; exact m8 j, fun p q e1 e2 => ?_⟩
  · refine k2.mono ?_
    cases hz : z_ndr kd 26 (z_ndr kd 36 r) with
    | inl q =>
      have e1 : z_hd2 kd r = .inl q := by unfold z_hd2 z_hd1; rw [hz]; rfl
      have e2 : (z_hd1 kd r).2 = .inl q := by unfold z_hd1; rw [hz]; rfl
      rw [hz] at he0
      rw [e1, e2, he0]
      show 3 * q + (d + 1) ≤ 3 * q + d + 1
      omega
    | inr q =>
      rw [hz] at he0
      have he1 : e0 = d := he0
      rw [he1]
      show _ ≤ 3 * z_pk (z_hd2 kd r) + d + _
      omega
  · rw [hfu.2.2.2.1 k P P2 (fun q => y q.2), I0, if_neg x, m6]
  · obtain ⟨x1, y1, z1, -⟩ := z_ndr_ok (show z_ndr kd 26 (z_ndr kd 2 (z_ndr kd 27 (z_hd1 kd r).2)) = .inr q from e2)
    obtain ⟨x2, y2, z2, -⟩ := z_ndr_ok y1
    obtain ⟨x3, y3, z3, -⟩ := z_ndr_ok y2
    have hk : kd p = 36 := by
      by_cases w : kd p = 36
      · exact w
      · exfalso
        have : z_ndr kd 36 r = .inl p := by rw [e1]; unfold z_ndr; simp only []; rw [if_neg w]
        unfold z_hd1 at y3
        rw [this] at y3
        cases y3
    refine ⟨hk, ?_, ?_, ((d6 x3 y3).as A P2)⟩
    · rw [hfu.2.2.2.2.1, L0]; exact a4 p e1 hk
    · rw [hfu.2.2.2.1 71 P P2 (fun q => by have := q.2; omega), I0, if_pos rfl, e1]; rfl
end
