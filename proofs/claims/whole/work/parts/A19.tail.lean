/-! THE ENGINE READS A PART: search and cycle -/
def E_tf (P W Q : Nat) (K J : List Nat) (u v : g_St) : Prop := E_kp [P, W, Q] u v ∧ g_cnt v = g_cnt u ∧ g_R v = g_R u ∧ (∀ k a, a ≠ 2 → ¬ (a = P ∧ k ∈ K) → g_I v k a = g_I u k a) ∧ g_L v = g_L u ∧ g_ln v = g_ln u ∧ g_AR v = g_AR u ∧ (∀ a j, ¬ (a = W ∧ j ∈ J) → g_AL v a j = g_AL u a j) ∧ (∀ a j, ¬ (a = Q ∧ j ∈ J) → g_AI v a j = g_AI u a j)
theorem E_tf.re {P W Q : Nat} {K J : List Nat} {u : g_St} : E_tf P W Q K J u u := ⟨E_kp.re, rfl, rfl, fun _ _ _ _ => rfl, rfl, rfl, rfl, fun _ _ _ => rfl, fun _ _ _ => rfl⟩
theorem E_tf.trans {P W Q : Nat} {K J K' J' : List Nat} {u v w : g_St} (h : E_tf P W Q K J u v) (g : E_tf P W Q K' J' v w) (hK : ∀ k ∈ K', k ∈ K) (hJ : ∀ k ∈ J', k ∈ J) : E_tf P W Q K J u w := by
  obtain ⟨h1, h2, h3, h4, h5, h6, h7, h8, h9⟩ := h
  obtain ⟨g1, g2, g3, g4, g5, g6, g7, g8, g9⟩ := g
  exact ⟨h1.trans g1 (fun a ha => Or.inl ha), g2.trans h2, g3.trans h3, fun k a x y => (g4 k a x (fun q => y ⟨q.1, hK k q.2⟩)).trans (h4 k a x y), g5.trans h5, g6.trans h6, g7.trans h7, fun a j x => (g8 a j (fun q => x ⟨q.1, hJ j q.2⟩)).trans (h8 a j x), fun a j x => (g9 a j (fun q => x ⟨q.1, hJ j q.2⟩)).trans (h9 a j x)⟩
theorem E_as.tf {P W Q : Nat} {K J : List Nat} {u v : g_St} (g : E_as u v) : E_tf P W Q K J u v := ⟨g.kp _, g.1, g.2.2.2.2.1, fun k a x _ => g.2.2.2.2.2.2.2.2.2 k a (fun q => x q.1), g.2.2.2.1, g.2.2.2.2.2.2.2.2.1, g.2.2.2.2.2.2.2.1, fun a j _ => by rw [g.2.2.2.2.2.2.1], fun a j _ => by rw [g.2.2.2.2.2.1]⟩
theorem E_np.tf {pl : Nat → Nat} {P W Q i : Nat} {r : z_P} {u v : g_St} (h : E_np pl W Q i r u v) {K J : List Nat} (hi : i ∈ J) : E_tf P W Q K J u v := by
  obtain ⟨k1, k2, k3, k4, k5, k6, k7, k8, k9, k10⟩ := h
  exact ⟨k10.mono (fun a ha => Or.inl (by simp only [List.mem_cons, List.not_mem_nil, or_false] at ha ⊢; omega)), k1, k2, fun k a x _ => k3 k a x, k4, k5, k6, fun a j x => k7 a j (fun q => x ⟨q.1, q.2 ▸ hi⟩), fun a j x => k8 a j (fun q => x ⟨q.1, q.2 ▸ hi⟩)⟩
theorem E_tf.pI {P W Q : Nat} {K J : List Nat} {u v : g_St} (h : E_tf P W Q K J u v) {k : Nat} (hk : k ∈ K) (hP : P ≠ 2) (x : Int32) : E_tf P W Q K J u (g_setI v k P x) := by
  obtain ⟨h1, h2, h3, h4, h5, h6, h7, h8, h9⟩ := h
  refine ⟨h1.pI ⟨hP, Or.inl (by simp)⟩ _ _, h2, h3, fun k' a x' y => ?_, h5, h6, h7, h8, h9⟩
  have ne : ¬ (k' = k ∧ a = P) := fun q => y ⟨q.2, by rw [q.1]; exact hk⟩
  rw [x_I_I, if_neg ne]
  exact h4 k' a x' y
theorem E_pA.tf {c : z_Cx} {u v : g_St} {P W Q L : Nat} {K J : List Nat} (h : E_pA c u P W Q L) (g : E_tf P W Q K J u v) : E_pA c v P W Q L := h.of (fun t => by rw [g.2.1]; exact Nat.le_refl _) (fun k => by rw [g.2.2.1]) ⟨by rw [g.2.2.2.2.2.1], by rw [g.2.2.2.2.2.1], by rw [g.2.2.2.2.2.1]⟩
def E_pC (pl : Nat → Nat) (wd : Nat → Int64) (P W Q : Nat) (v : g_St) (x : Option Nat) : Prop := match x with
  | none => g_I v 455 P = 0 ∧ g_AL v W 3 = 0 ∧ g_AL v W 6 = 0
  | some q => g_I v 455 P = 1 ∧ g_AL v W 6 = wd q ∧ g_AI v Q 6 = Int32.ofNat (pl q) ∧ g_AL v W 3 = wd (q + 2) ∧ g_AI v Q 3 = Int32.ofNat (pl (q + 2))
def E_pS (pl : Nat → Nat) (wd : Nat → Int64) (P W Q : Nat) (v : g_St) (x : Option (Bool × Nat)) : Prop := match x with
  | none => g_I v 391 P = 0 ∧ g_I v 327 P = 0 ∧ g_AL v W 4 = 0 ∧ g_AL v W 5 = 0
  | some y => g_I v 391 P = 1 ∧ g_I v 327 P = z_g y.1 ∧ g_AL v W 5 = wd (y.2 + 3) ∧ g_AI v Q 5 = Int32.ofNat (pl (y.2 + 3)) ∧ g_AL v W 4 = wd (y.2 + 5) ∧ g_AI v Q 4 = Int32.ofNat (pl (y.2 + 5))
section
variable {n : Nat} {kd pl : Nat → Nat} {wd vl : Nat → Int64} {c : z_Cx} {P W Q L : Nat}
theorem a_t83 (Z : E_cx c) (H : z_H n kd) {u : g_St} {r : z_P} {w : Nat} (hA : E_pA c u P W Q L) (hb : E_b n kd pl wd c u r w) (h0 : g_AL u W 3 = 0 ∧ g_AL u W 6 = 0) : ∃ u', f_Re_tail_83 (some 2) (some P) u = some ((), u') ∧ E_b n kd pl wd c u' (z_cyc kd r).2 w ∧ E_tf P W Q [455] [3, 6] u u' ∧ z_pk r ≤ z_pk (z_cyc kd r).2 ∧ ∀ q, (z_cyc kd r).2 = .inr q → E_pC pl wd P W Q u' (z_cyc kd r).1 := by
  have P2 : P ≠ 2 := hA.2.1.1.ne2
  obtain ⟨s2, a1, a2, a3⟩ := a_ac Z H hb (k := 19) (by decide)
  obtain ⟨s3, e3⟩ : ∃ s3, s3 = g_setI s2 455 P (z_g (z_skr kd 19 r).1) := ⟨_, rfl⟩
  have B3 : E_b n kd pl wd c s3 (z_skr kd 19 r).2 w := by rw [e3]; exact a2.pI Z hA.2.1.1 _ _
  have t3 : E_tf P W Q [455] [3, 6] u s3 := by rw [e3]; exact a3.tf.pI (by decide) P2 _
  have i3 : g_I s3 455 P = z_g (z_skr kd 19 r).1 := by rw [e3, x_I_I, if_pos ⟨rfl, rfl⟩]
  have al3 : g_AL s3 = g_AL u := by rw [e3]; show g_AL s2 = _; rw [a3.2.2.2.2.2.2.1]
  have st : f_Re_tail_83 (some 2) (some P) u = if z_g (z_skr kd 19 r).1 = 0 then some ((), s3) else g_c (g_nn (some 2) (f_Re_nameInto (some 2) (some P) 6 s3)) fun _ s6 => g_c (g_nn (some 2) (f_Re_expect (some 2) (some 1165) s6)) fun _ s8 => g_c (g_nn (some 2) (f_Re_nameInto (some 2) (some P) 3 s8)) fun _ s10 => some ((), s10) := by
    unfold f_Re_tail_83
    rw [x_nn, show (1229 : Nat) = 19 * 64 + 13 from rfl, a1, x_c, x_pZ, ← e3, x_gI, i3]
  rcases z_skr_c 19 r with ⟨w1, q, f1, f2, f3⟩ | ⟨w1, f1, f2⟩
  · rw [w1, if_neg (show ¬ z_g true = 0 by decide)] at st
    rw [w1] at i3
    rw [f3] at B3
    rw [z_cyc_t f3]
    obtain ⟨-, ⟨n1, n2, n3, n4⟩, -, ⟨c1, c2, c3⟩, d1, d2, d3⟩ := hA.tf t3
    obtain ⟨s6, b1, b2, b3, b4⟩ := a_ni Z H B3 n2 n3 (i := 6) c1 c2 d1 d2 (by decide)
    obtain ⟨s8, g1, g2, g3⟩ := a_ex Z H b2 (k := 18) (by decide)
    have t8 : E_tf P W Q [455] [3, 6] u s8 := (t3.trans (b3.tf (K := [455]) (J := [3, 6]) (by decide)) (fun _ h => h) (fun _ h => h)).trans (g3.tf (K := [455]) (J := [3, 6])) (fun _ h => h) (fun _ h => h)
    obtain ⟨-, -, -, ⟨c1', c2', c3'⟩, d1', d2', d3'⟩ := hA.tf t8
    obtain ⟨s10, k1, k2, k3, k4⟩ := a_ni Z H g2 n2 n3 (i := 3) c1' c2' d1' d2' (by decide)
    rw [x_nn, show (6 : Int32) = Int32.ofNat 6 from rfl, b1, x_c, x_nn, show (1165 : Nat) = 18 * 64 + 13 from rfl, g1, x_c, x_nn, show (3 : Int32) = Int32.ofNat 3 from rfl, k1, x_c] at st
    refine ⟨s10, st, k2, t8.trans (k3.tf (K := [455]) (J := [3, 6]) (by decide)) (fun _ h => h) (fun _ h => h), ?_, fun q' hq => ?_⟩
    · have x1 := z_pk_nd (kd := kd) 36 (.inr (q + 1))
      have x2 := z_pk_nd (kd := kd) 18 (z_ndr kd 36 (.inr (q + 1)))
      have x3 := z_pk_nd (kd := kd) 36 (z_ndr kd 18 (z_ndr kd 36 (.inr (q + 1))))
      have x0 : z_pk (.inr (q + 1)) = q + 1 := rfl
      have x4 : z_pk r = q := by rw [f1]; rfl
      show z_pk r ≤ z_pk (z_ndr kd 36 (z_ndr kd 18 (z_ndr kd 36 (.inr (q + 1)))))
      omega
    · obtain ⟨x1, y1, z1, -⟩ := z_ndr_ok (show z_ndr kd 36 (z_ndr kd 18 (z_ndr kd 36 (.inr (q + 1)))) = .inr q' from hq)
      obtain ⟨x2, y2, z2, v2⟩ := z_ndr_ok y1
      obtain ⟨x3, y3, z3, v3⟩ := z_ndr_ok y2
      cases y3
      have ep : z_pk (z_ndr kd 18 (z_ndr kd 36 (.inr (q + 1)))) = q + 1 + 2 := by rw [y1, v2, v3]; rfl
      refine ⟨?_, ?_, ?_, ?_, ?_⟩
      · rw [k3.2.2.1 _ _ P2, g3.2.2.2.2.2.2.2.2.2 _ _ (fun q => P2 q.1), b3.2.2.1 _ _ P2, i3]; rfl
      · rw [k3.2.2.2.2.2.2.1 W 6 (fun q => by have := q.2; omega), g3.2.2.2.2.2.2.1]; exact b4 (q + 1) rfl z3
      · rw [k3.2.2.2.2.2.2.2.1 Q 6 (fun q => by have := q.2; omega), g3.2.2.2.2.2.1, b3.2.2.2.2.2.2.2.2.1]; rfl
      · have := k4 x1 y1 z1
        rw [this, v2, v3]
      · rw [k3.2.2.2.2.2.2.2.2.1, ep]
  · rw [w1, if_pos (show z_g false = 0 from rfl)] at st
    rw [w1] at i3
    rw [f1] at B3
    rw [z_cyc_f w1]
    exact ⟨s3, st, B3, t3, Nat.le_refl _, fun q hq => ⟨i3, by rw [al3]; exact h0.1, by rw [al3]; exact h0.2⟩⟩
theorem a_tl (Z : E_cx c) (H : z_H n kd) {u : g_St} {r : z_P} {w : Nat} (hA : E_pA c u P W Q L) (hb : E_b n kd pl wd c u r w) (h0 : ∀ j, 3 ≤ j → g_AL u W j = 0) (h327 : g_I u 327 P = 0) : ∃ u', f_Re_tail (some 2) (some P) u = some ((), u') ∧ E_b n kd pl wd c u' (z_cyc kd (z_sea kd (z_ndr kd 27 r)).2).2 w ∧ E_tf P W Q [327, 391, 455] [3, 4, 5, 6] u u' ∧ z_pk r ≤ z_pk (z_cyc kd (z_sea kd (z_ndr kd 27 r)).2).2 ∧ ∀ q, (z_cyc kd (z_sea kd (z_ndr kd 27 r)).2).2 = .inr q → E_pS pl wd P W Q u' (z_sea kd (z_ndr kd 27 r)).1 ∧ E_pC pl wd P W Q u' (z_cyc kd (z_sea kd (z_ndr kd 27 r)).2).1 ∧ z_pk r < q := by
  have P2 : P ≠ 2 := hA.2.1.1.ne2
  obtain ⟨s2, a1, a2, a3⟩ := a_ex Z H hb (k := 27) (by decide)
  have pk27 := z_pk_nd (kd := kd) 27 r
  obtain ⟨s4, b1, b2, b3⟩ := a_ac Z H a2 (k := 13) (by decide)
  obtain ⟨s5, e5⟩ : ∃ s5, s5 = g_setI s4 391 P (z_g (z_skr kd 13 (z_ndr kd 27 r)).1) := ⟨_, rfl⟩
  have B5 : E_b n kd pl wd c s5 (z_skr kd 13 (z_ndr kd 27 r)).2 w := by rw [e5]; exact b2.pI Z hA.2.1.1 _ _
  have t5 : E_tf P W Q [327, 391, 455] [3, 4, 5, 6] u s5 := by rw [e5]; exact (a3.trans b3).tf.pI (by decide) P2 _
  have i5 : g_I s5 391 P = z_g (z_skr kd 13 (z_ndr kd 27 r)).1 := by rw [e5, x_I_I, if_pos ⟨rfl, rfl⟩]
  have al5 : g_AL s5 = g_AL u := by rw [e5]; show g_AL s4 = _; rw [b3.2.2.2.2.2.2.1, a3.2.2.2.2.2.2.1]
  have j5 : g_I s5 327 P = 0 := by
    rw [e5, x_I_I, if_neg (fun q => by have := q.1; omega), b3.2.2.2.2.2.2.2.2.2 _ _ (fun q => P2 q.1), a3.2.2.2.2.2.2.2.2.2 _ _ (fun q => P2 q.1)]; exact h327
  have st : f_Re_tail (some 2) (some P) u = if z_g (z_skr kd 13 (z_ndr kd 27 r)).1 = 0 then f_Re_tail_83 (some 2) (some P) s5 else g_c (g_nn (some 2) (f_Re_accept (some 2) (some 973) s5)) fun i7 s8 => g_pZ s8 327 (some P) i7 fun s9 => g_gI s9 327 (some P) fun i10 => if i10 = 0 then g_c (g_nn (some 2) (f_Re_expect (some 2) (some 909) s9)) fun _ s12 => f_Re_tail_50 (some 2) (some P) s12 else f_Re_tail_50 (some 2) (some P) s9 := by
    unfold f_Re_tail
    rw [x_nn, show (1741 : Nat) = 27 * 64 + 13 from rfl, a1, x_c, x_nn, show (845 : Nat) = 13 * 64 + 13 from rfl, b1, x_c, x_pZ, ← e5, x_gI, i5]
  -- from the search on
  have fin : ∀ (s : g_St) (r1 : z_P) (x : Option (Bool × Nat)), E_b n kd pl wd c s r1 w → E_tf P W Q [327, 391, 455] [3, 4, 5, 6] u s → (g_AL s W 3 = 0 ∧ g_AL s W 6 = 0) → z_pk (z_ndr kd 27 r) ≤ z_pk r1 → (∀ q, r1 = .inr q → E_pS pl wd P W Q s x) → (∀ q, r1 = .inr q → ∃ q0, z_ndr kd 27 r = .inr q0) → z_sea kd (z_ndr kd 27 r) = (x, r1) → f_Re_tail (some 2) (some P) u = f_Re_tail_83 (some 2) (some P) s →
      ∃ u', f_Re_tail (some 2) (some P) u = some ((), u') ∧ E_b n kd pl wd c u' (z_cyc kd (z_sea kd (z_ndr kd 27 r)).2).2 w ∧ E_tf P W Q [327, 391, 455] [3, 4, 5, 6] u u' ∧ z_pk r ≤ z_pk (z_cyc kd (z_sea kd (z_ndr kd 27 r)).2).2 ∧ ∀ q, (z_cyc kd (z_sea kd (z_ndr kd 27 r)).2).2 = .inr q → E_pS pl wd P W Q u' (z_sea kd (z_ndr kd 27 r)).1 ∧ E_pC pl wd P W Q u' (z_cyc kd (z_sea kd (z_ndr kd 27 r)).2).1 ∧ z_pk r < q := by
    intro s r1 x q1 q2 q3 q4 q5 q5' q6 q7
    obtain ⟨u', x1, x2, x3, x4, x5⟩ := a_t83 Z H (hA.tf q2) q1 q3
    rw [q6]
    refine ⟨u', q7.trans x1, x2, q2.trans x3 (by decide) (by decide), by show z_pk r ≤ z_pk (z_cyc kd r1).2; omega, fun q hq => ?_⟩
    have hr1 : ∃ y, r1 = .inr y := by
      cases hh : r1 with
      | inl y =>
        exfalso
        have e0 : (z_cyc kd r1).2 = .inl y := by rw [hh]; rfl
        rw [e0] at hq; cases hq
      | inr y => exact ⟨y, rfl⟩
    obtain ⟨y, hy⟩ := hr1
    have S5 := q5 y hy
    obtain ⟨q0, hq0⟩ := q5' y hy
    obtain ⟨x1', y1', -, y2'⟩ := z_ndr_ok hq0
    refine ⟨?_, x5 q hq, ?_⟩
    · have I' : ∀ k, k ≠ 455 → g_I u' k P = g_I s k P := fun k hk => x3.2.2.2.1 k P P2 (fun q => hk (List.mem_singleton.mp q.2))
      have W' : ∀ j, j = 4 ∨ j = 5 → g_AL u' W j = g_AL s W j ∧ g_AI u' Q j = g_AI s Q j := fun j hj => ⟨x3.2.2.2.2.2.2.2.1 W j (fun q => by have := q.2; simp only [List.mem_cons, List.not_mem_nil, or_false] at this; omega), x3.2.2.2.2.2.2.2.2 Q j (fun q => by have := q.2; simp only [List.mem_cons, List.not_mem_nil, or_false] at this; omega)⟩
      cases x with
      | none =>
        obtain ⟨z1, z2, z3, z4⟩ := S5
        exact ⟨by rw [I' _ (by decide)]; exact z1, by rw [I' _ (by decide)]; exact z2, by rw [(W' 4 (by omega)).1]; exact z3, by rw [(W' 5 (by omega)).1]; exact z4⟩
      | some yy =>
        obtain ⟨z1, z2, z3, z4, z5, z6⟩ := S5
        exact ⟨by rw [I' _ (by decide)]; exact z1, by rw [I' _ (by decide)]; exact z2, by rw [(W' 5 (by omega)).1]; exact z3, by rw [(W' 5 (by omega)).2]; exact z4, by rw [(W' 4 (by omega)).1]; exact z5, by rw [(W' 4 (by omega)).2]; exact z6⟩
    · have e1 : z_pk r = x1' := by rw [y1']; rfl
      have e2 : z_pk (z_ndr kd 27 r) = q0 := by rw [hq0]; rfl
      have e3 : z_pk (z_cyc kd r1).2 = q := by rw [show (z_cyc kd r1).2 = .inr q from hq]; rfl
      omega
  rcases z_skr_c 13 (z_ndr kd 27 r) with ⟨w1, q0, f1, f2, f3⟩ | ⟨w1, f1, f2⟩
  · -- SEARCH
    rw [w1, if_neg (show ¬ z_g true = 0 by decide)] at st
    rw [w1] at i5
    rw [f3] at B5
    obtain ⟨s8, g1, g2, g3⟩ := a_ac Z H B5 (k := 15) (by decide)
    obtain ⟨s9, e9⟩ : ∃ s9, s9 = g_setI s8 327 P (z_g (z_skr kd 15 (.inr (q0 + 1))).1) := ⟨_, rfl⟩
    have i9 : g_I s9 327 P = z_g (z_skr kd 15 (.inr (q0 + 1))).1 := by rw [e9, x_I_I, if_pos ⟨rfl, rfl⟩]
    have i9' : g_I s9 391 P = 1 := by rw [e9, x_I_I, if_neg (fun q => by have := q.1; omega), g3.2.2.2.2.2.2.2.2.2 _ _ (fun q => P2 q.1), i5]; rfl
    have t9 : E_tf P W Q [327, 391, 455] [3, 4, 5, 6] u s9 := by rw [e9]; exact (t5.trans (g3.tf (K := [327, 391, 455]) (J := [3, 4, 5, 6])) (fun _ h => h) (fun _ h => h)).pI (by decide) P2 _
    have al9 : g_AL s9 = g_AL u := by rw [e9]; show g_AL s8 = _; rw [g3.2.2.2.2.2.2.1, al5]
    have B9 : E_b n kd pl wd c s9 (z_skr kd 15 (.inr (q0 + 1))).2 w := by rw [e9]; exact g2.pI Z hA.2.1.1 _ _
    rw [x_nn, show (973 : Nat) = 15 * 64 + 13 from rfl, g1, x_c, x_pZ, ← e9, x_gI, i9] at st
    have es := z_sea_t f3
    -- the word's place
    have e50 : ∃ t, f_Re_tail (some 2) (some P) u = f_Re_tail_50 (some 2) (some P) t ∧ E_b n kd pl wd c t (if kd (q0 + 1) = 15 then .inr (q0 + 1 + 1) else z_ndr kd 14 (.inr (q0 + 1))) w ∧ E_as s9 t ∧ (z_skr kd 15 (.inr (q0 + 1))).1 = decide (kd (q0 + 1) = 15) := by
      by_cases y : kd (q0 + 1) = 15
      · rw [z_skr_t y] at st B9
        rw [if_neg (show ¬ z_g (true, (.inr (q0 + 1 + 1) : z_P)).1 = 0 from (show ¬ z_g true = 0 by decide))] at st
        exact ⟨s9, st, by rw [if_pos y]; exact B9, E_as.re, by rw [z_skr_t y, decide_eq_true y]⟩
      · rw [z_skr_f y] at st B9
        obtain ⟨t, k1, k2, k3⟩ := a_ex Z H B9 (k := 14) (by decide)
        rw [if_pos (show z_g (false, (.inr (q0 + 1) : z_P)).1 = 0 from rfl), x_nn, show (909 : Nat) = 14 * 64 + 13 from rfl, k1, x_c] at st
        exact ⟨t, st, by rw [if_neg y]; exact k2, k3, by rw [z_skr_f y, decide_eq_false y]⟩
    obtain ⟨t, l1, l2, l3, l4⟩ := e50
    rw [l4] at i9
    obtain ⟨s20, m1, m2, m3⟩ := a_ex Z H l2 (k := 16) (by decide)
    obtain ⟨s21, o1, o2, o3⟩ := a_ex Z H m2 (k := 17) (by decide)
    have A21 := (l3.trans m3).trans o3
    have t21 : E_tf P W Q [327, 391, 455] [3, 4, 5, 6] u s21 := t9.trans (A21.tf (K := [327, 391, 455]) (J := [3, 4, 5, 6])) (fun _ h => h) (fun _ h => h)
    obtain ⟨-, ⟨n1, n2, n3, n4⟩, -, ⟨c1, c2, c3⟩, d1, d2, d3⟩ := hA.tf t21
    obtain ⟨s22, v1, v2, v3, v4⟩ := a_ni Z H o2 n2 n3 (i := 5) c1 c2 d1 d2 (by decide)
    obtain ⟨s23, x1, x2, x3⟩ := a_ex Z H v2 (k := 18) (by decide)
    have t23 : E_tf P W Q [327, 391, 455] [3, 4, 5, 6] u s23 := (t21.trans (v3.tf (K := [327, 391, 455]) (J := [3, 4, 5, 6]) (by decide)) (fun _ h => h) (fun _ h => h)).trans (x3.tf (K := [327, 391, 455]) (J := [3, 4, 5, 6])) (fun _ h => h) (fun _ h => h)
    obtain ⟨-, -, -, ⟨c1', c2', c3'⟩, d1', d2', d3'⟩ := hA.tf t23
    obtain ⟨s24, y1, y2, y3, y4⟩ := a_ni Z H x2 n2 n3 (i := 4) c1' c2' d1' d2' (by decide)
    have t24 : E_tf P W Q [327, 391, 455] [3, 4, 5, 6] u s24 := t23.trans (y3.tf (K := [327, 391, 455]) (J := [3, 4, 5, 6]) (by decide)) (fun _ h => h) (fun _ h => h)
    have s50 : f_Re_tail (some 2) (some P) u = f_Re_tail_83 (some 2) (some P) s24 := by
      rw [l1]
      unfold f_Re_tail_50
      rw [x_nn, show (1037 : Nat) = 16 * 64 + 13 from rfl, m1, x_c, x_nn, show (1101 : Nat) = 17 * 64 + 13 from rfl, o1, x_c, x_nn, show (5 : Int32) = Int32.ofNat 5 from rfl, v1, x_c, x_nn, show (1165 : Nat) = 18 * 64 + 13 from rfl, x1, x_c, x_nn, show (4 : Int32) = Int32.ofNat 4 from rfl, y1, x_c]
    have I24 : ∀ k, g_I s24 k P = g_I s9 k P := fun k => by rw [y3.2.2.1 _ _ P2, x3.2.2.2.2.2.2.2.2.2 _ _ (fun q => P2 q.1), v3.2.2.1 _ _ P2, A21.2.2.2.2.2.2.2.2.2 _ _ (fun q => P2 q.1)]
    have W24 : ∀ j, j ≠ 4 → j ≠ 5 → g_AL s24 W j = g_AL u W j := fun j h1 h2 => by rw [y3.2.2.2.2.2.2.1 W j (fun q => h1 q.2), x3.2.2.2.2.2.2.1, v3.2.2.2.2.2.2.1 W j (fun q => h2 q.2), A21.2.2.2.2.2.2.1, al9]
    refine fin s24 _ (some (decide (kd (q0 + 1) = 15), q0 + 1)) y2 t24 ⟨by rw [W24 3 (by decide) (by decide)]; exact h0 3 (by decide), by rw [W24 6 (by decide) (by decide)]; exact h0 6 (by decide)⟩ ?_ (fun q hq => ?_) (fun q _ => ⟨q0, f1⟩) es s50
    · have z1 : q0 + 1 ≤ z_pk (if kd (q0 + 1) = 15 then (.inr (q0 + 1 + 1) : z_P) else z_ndr kd 14 (.inr (q0 + 1))) := by
        by_cases y : kd (q0 + 1) = 15
        · rw [if_pos y]; show q0 + 1 ≤ q0 + 1 + 1; omega
        · rw [if_neg y]; exact z_pk_nd (kd := kd) 14 (.inr (q0 + 1))
      have e1 : z_pk (z_ndr kd 27 r) = q0 := by rw [f1]; rfl
      rw [e1]
      exact Nat.le_trans (by omega) (Nat.le_trans z1 (Nat.le_trans (z_pk_nd _ _) (Nat.le_trans (z_pk_nd _ _) (Nat.le_trans (z_pk_nd _ _) (Nat.le_trans (z_pk_nd _ _) (z_pk_nd _ _))))))
    · obtain ⟨a6, b6, k6, v6⟩ := z_ndr_ok hq
      obtain ⟨a5, b5, k5, v5⟩ := z_ndr_ok b6
      obtain ⟨a4, b4, k4, v4'⟩ := z_ndr_ok b5
      obtain ⟨a3', b3', k3', v3'⟩ := z_ndr_ok b4
      obtain ⟨a2', b2', k2', v2'⟩ := z_ndr_ok b3'
      have ea : a2' = q0 + 1 + 1 := by
        by_cases y : kd (q0 + 1) = 15
        · rw [if_pos y] at b2'; cases b2'; rfl
        · rw [if_neg y] at b2'
          obtain ⟨z1, z2, -, z3⟩ := z_ndr_ok b2'
          cases z2
          exact z3
      have e4 : a4 = q0 + 1 + 3 := by omega
      have e6 : a6 = q0 + 1 + 5 := by omega
      refine ⟨by rw [I24]; exact i9', by rw [I24]; exact i9, ?_, ?_, ?_, ?_⟩
      · rw [y3.2.2.2.2.2.2.1 W 5 (fun q => by have := q.2; omega), x3.2.2.2.2.2.2.1, ← e4]; exact v4 a4 b4 k4
      · rw [y3.2.2.2.2.2.2.2.1 Q 5 (fun q => by have := q.2; omega), x3.2.2.2.2.2.1, v3.2.2.2.2.2.2.2.2.1, b4, ← e4]; rfl
      · rw [← e6]; exact y4 a6 b6 k6
      · rw [y3.2.2.2.2.2.2.2.2.1, b6, ← e6]; rfl
  · rw [w1, if_pos (show z_g false = 0 from rfl)] at st
    rw [w1] at i5
    rw [f1] at B5
    exact fin s5 (z_ndr kd 27 r) none B5 t5 ⟨by rw [al5]; exact h0 3 (by decide), by rw [al5]; exact h0 6 (by decide)⟩ (Nat.le_refl _) (fun q _ => ⟨i5, j5, by rw [al5]; exact h0 4 (by decide), by rw [al5]; exact h0 5 (by decide)⟩) (fun q hq => ⟨q, hq⟩) (z_sea_f w1) st
end
