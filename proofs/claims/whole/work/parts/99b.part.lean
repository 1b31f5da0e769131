/-! THE REFERENCE READS A PART -/
abbrev z_Pa : Type := Nat × List Nat × List z_Se × List Bool × Option (Bool × Nat) × Option Nat
def z_col (kd : Nat → Nat) (p : Nat) : Nat × z_P := (p, z_ndr kd 36 (.inr p))
def z_p1 (kd : Nat → Nat) (p : Nat) : List Nat × z_P := z_go (z_ndr kd 26 (z_ndr kd 36 (.inr p))) (z_lst kd 25 (z_col kd) 2)
def z_p2 (kd : Nat → Nat) (vl : Nat → Int64) (p : Nat) : (List z_Se × List Bool) × z_P := match z_ndr kd 26 (z_ndr kd 2 (z_ndr kd 27 (z_p1 kd p).2)) with
  | .inr q => z_uni kd vl 3 q
  | .inl q => (([], []), .inl q)
def z_p3 (kd : Nat → Nat) (vl : Nat → Int64) (p : Nat) : Option (Bool × Nat) × z_P := z_sea kd (z_ndr kd 27 (z_p2 kd vl p).2)
def z_par (kd : Nat → Nat) (vl : Nat → Int64) (p : Nat) : z_Pa × z_P := ((p, (z_p1 kd p).1, (z_p2 kd vl p).1.1, (z_p2 kd vl p).1.2, (z_p3 kd vl p).1, (z_cyc kd (z_p3 kd vl p).2).1), (z_cyc kd (z_p3 kd vl p).2).2)
def M_pa (pl : Nat → Nat) (u : g_St) (C : Nat → Nat) (p s0 : Nat) (x : z_Pa) : Prop := p < C 1153 ∧ g_AI u 1236 p = Int32.ofNat x.1 ∧ g_AI u 1300 p = Int32.ofNat x.2.1.length ∧ (∀ j, j < x.2.1.length → g_AI u 1364 (3 * p + j) = Int32.ofNat (x.2.1.getD j 0)) ∧ g_AI u 1876 p = Int32.ofNat s0 ∧ M_ses pl u C s0 p x.2.2.1 ∧ g_AI u 1940 p = Int32.ofNat x.2.2.1.length ∧ g_AI u 31 p = z_g (x.2.2.2.1.any fun b => !b) ∧ g_AI u 95 p = z_g (x.2.2.2.1.any id) ∧ M_ps u p x.2.2.2.2.1 ∧ M_pc u p x.2.2.2.2.2 ∧ x.2.1.length ≤ 3 ∧ x.2.2.1.length ≤ 4
theorem M_pa.low {pl : Nat → Nat} {u v : g_St} {C C' : Nat → Nat} {p s0 : Nat} {x : z_Pa} (m : M_pa pl u C p s0 x) (h : M_low u v C) (le : z_le C C') : M_pa pl v C' p s0 x := by
  obtain ⟨m1, m2, m3, m4, m5, m6, m7, m8, m9, m10, m11, m12⟩ := m
  have a1 : ∀ a, (a, 1153, 1) ∈ z_gp → g_AI v a p = g_AI u a p := fun a ha => h.at (f := 1153) (k := 1) ha (by omega)
  refine ⟨Nat.lt_of_lt_of_le m1 (le _), by rw [a1 _ (by decide)]; exact m2, by rw [a1 _ (by decide)]; exact m3, fun j hj => ?_, by rw [a1 _ (by decide)]; exact m5, m6.low h le, by rw [a1 _ (by decide)]; exact m7, by rw [a1 _ (by decide)]; exact m8, by rw [a1 _ (by decide)]; exact m9, ?_, ?_, m12⟩
  · have := m12.1
    rw [h.at (f := 1153) (k := 3) (by decide) (by omega)]; exact m4 j hj
  · cases hx : x.2.2.2.2.1 with
    | none => rw [hx] at m10; show g_AI v 1428 p = 0; rw [a1 _ (by decide)]; exact m10
    | some y => rw [hx] at m10; exact ⟨by rw [a1 _ (by decide)]; exact m10.1, by rw [a1 _ (by decide)]; exact m10.2.1, by rw [a1 _ (by decide)]; exact m10.2.2⟩
  · cases hx : x.2.2.2.2.2 with
    | none => rw [hx] at m11; show g_AI v 1620 p = -1; rw [a1 _ (by decide)]; exact m11
    | some y => rw [hx] at m11; exact ⟨by rw [a1 _ (by decide)]; exact m11.1, by rw [a1 _ (by decide)]; exact m11.2⟩
def M_jc (u0 : g_St) (p q0 q : Nat) (l : List Nat) (u : g_St) : Prop := (∀ x, x ≠ 577 → x ≠ 833 → x ≠ 897 → g_I u x 1 = g_I u0 x 1) ∧ (∀ a, a ≠ 1300 → a ≠ 1364 → g_AI u a = g_AI u0 a) ∧ (∀ j, j ≠ p → g_AI u 1300 j = g_AI u0 1300 j) ∧ (∀ j, j < 3 * p → g_AI u 1364 j = g_AI u0 1364 j) ∧ g_AI u 1300 p = Int32.ofNat l.length ∧ (∀ j, j < l.length → g_AI u 1364 (3 * p + j) = Int32.ofNat (l.getD j 0)) ∧ q0 ≤ q
section
variable {n : Nat} {kd pl : Nat → Nat} {vl : Nat → Int64}
theorem M_jc.as {u0 s s' : g_St} {p q0 q : Nat} {l : List Nat} (h : M_jc u0 p q0 q l s) (g : M_as s s') : M_jc u0 p q0 q l s' := by
  obtain ⟨h1, h2, h3, h4, h5, h6, h7⟩ := h
  exact ⟨fun x a b c => (g.2 x a b c).trans (h1 x a b c), fun a q1 q2 => by rw [g.1]; exact h2 a q1 q2, fun j hj => by rw [g.1]; exact h3 j hj, fun j hj => by rw [g.1]; exact h4 j hj, by rw [g.1]; exact h5, fun j hj => by rw [g.1]; exact h6 j hj, h7⟩
theorem b_cols (H : z_H n kd) {u0 : g_St} {q : Nat} (h : M_b n kd pl vl u0 (.inr q)) {p : Nat} (hp : p < 4) (h2 : g_AI u0 1300 p = 0) : ∃ u', f_M_readPart_32 200000 (some 1) (Int32.ofNat p) 1 u0 = f_M_readPart_102 (some 1) (Int32.ofNat p) u' ∧ M_b n kd pl vl u' (z_lst kd 25 (z_col kd) 2 q).2 ∧ (z_lst kd 25 (z_col kd) 2 q).1.length ≤ 3 ∧ ∀ q', (z_lst kd 25 (z_col kd) 2 q).2 = .inr q' → M_jc u0 p q q' (z_lst kd 25 (z_col kd) 2 q).1 u' := by
  refine b_loop (fun f x u => f_M_readPart_32 f (some 1) (Int32.ofNat p) x u) (f_M_readPart_102 (some 1) (Int32.ofNat p)) (f_M_skipSign (some 1) 44) 25 (z_col kd) 2 (M_jc u0 p q) (M_jc u0 p q) (fun s r hr => b_skS H hr (by decide) rfl) (fun f s => ?_) (fun q1 l u f hl hu hJ => ?_) (fun q1 l s s' hq ha => ⟨?_, hq.as ha⟩) 2 q [] u0 200000 rfl (by omega) h ⟨fun _ _ _ _ => rfl, fun _ _ _ => rfl, fun _ _ => rfl, fun _ _ => rfl, h2, (fun j hj => by cases hj), Nat.le_refl _⟩
  · show f_M_readPart_32 (f + 1) (some 1) (Int32.ofNat _) 0 s = _
    rw [f_M_readPart_32, if_pos rfl]
  · obtain ⟨c1, c2, c3, c4, c5, c6, c7⟩ := hJ
    obtain ⟨v, s7, a1, a2, a3, a4⟩ := b_nd H hu (k := 36) (by decide)
    have e3 : 3 * Int32.ofNat p + Int32.ofNat l.length = Int32.ofNat (3 * p + l.length) := by rw [Int32.ofNat_add, Int32.ofNat_mul]; rfl
    obtain ⟨s11, h11⟩ : ∃ s11, s11 = g_setAI (g_setAI s7 1364 (3 * p + l.length) v) 1300 p (Int32.ofNat (l.length + 1)) := ⟨_, rfl⟩
    have g11 : ∀ a j, g_AI s11 a j = if a = 1300 ∧ j = p then Int32.ofNat (l.length + 1) else if a = 1364 ∧ j = 3 * p + l.length then v else g_AI u a j := fun a j => by rw [h11, x_AI_AI, x_AI_AI, a3.1]
    have b11 : M_b n kd pl vl s11 (z_col kd q1).2 := by rw [h11]; exact (a2.sI (by decide) (by decide) _ _).sI (by decide) (by decide) _ _
    refine ⟨s11, b11, ?_, fun q' hq => ?_⟩
    · show f_M_readPart_32 (f + 1) (some 1) (Int32.ofNat p) 1 u = _
      rw [f_M_readPart_32, if_neg (by decide), x_nn, b_bad hu, x_c, if_pos rfl, x_gR, (m_at hu.1 m_k1345).1, x_gR, (m_at hu.1 m_k1281).1, x_aI (by omega) (by rw [(m_at hu.1 m_k1281).2]; exact hp), c5, x_nn, show (30 : Int32) = z_km 36 from rfl, a1, x_c, e3, x_sI (by omega) (by rw [(m_at a2.1 m_k1345).2]; show 3 * p + l.length < 12; omega), x_gR, show g_R (g_setAI s7 1364 (3 * p + l.length) v) 1281 1 = some 1300 from (m_at a2.1 m_k1281).1, x_aI (by omega) (by show p < g_ln s7 1300; rw [(m_at a2.1 m_k1281).2]; exact hp), show g_AI (g_setAI s7 1364 (3 * p + l.length) v) 1300 p = Int32.ofNat l.length from (by rw [x_AI_AI, if_neg (fun w => by have := w.1; omega), a3.1]; exact c5), x_p1, x_sI (by omega) (by show p < g_ln s7 1300; rw [(m_at a2.1 m_k1281).2]; exact hp), ← h11, x_gR, (m_at b11.1 m_k1281).1, x_aI (by omega) (by rw [(m_at b11.1 m_k1281).2]; exact hp), show g_AI s11 1300 p = Int32.ofNat (l.length + 1) from (by rw [g11, if_pos ⟨rfl, rfl⟩])]
      have e4 : (3 ≤ Int32.ofNat (l.length + 1)) = (3 ≤ l.length + 1) := x_le (a := 3) (by decide) (by omega)
      by_cases w : 2 ≤ l.length
      · rw [if_pos w, if_pos (by rw [e4]; omega)]
      · rw [if_neg w, if_neg (by rw [e4]; omega)]; rfl
    · obtain ⟨q2, w1, w2, w3⟩ := z_ndr_ok (show z_ndr kd 36 (.inr q1) = .inr q' from hq)
      cases w1
      have len : (l ++ [(z_col kd q1).1]).length = l.length + 1 := by rw [List.length_append, List.length_singleton]
      refine ⟨fun x y1 y2 y3 => ?_, fun a y1 y2 => funext fun j => ?_, fun j hj => ?_, fun j hj => ?_, by rw [len, g11, if_pos ⟨rfl, rfl⟩], fun j hj => ?_, by omega⟩
      · rw [h11]
        show g_I s7 x 1 = _
        rw [a3.2 x y1 y2 y3]; exact c1 x y1 y2 y3
      · rw [g11, if_neg (fun w => y1 w.1), if_neg (fun w => y2 w.1), c2 a y1 y2]
      · rw [g11, if_neg (fun w => hj w.2), if_neg (fun w => by have := w.1; omega)]; exact c3 j hj
      · rw [g11, if_neg (fun w => by have := w.1; omega), if_neg (fun w => by have := w.2; omega)]; exact c4 j hj
      · rw [len] at hj
        by_cases w : j < l.length
        · rw [z_getD_l w, g11, if_neg (fun w => by have := w.1; omega), if_neg (fun w => by have := w.2; omega)]
          exact c6 j w
        · have ej : j = l.length := by omega
          rw [ej, z_getD_e, g11, if_neg (fun w => by have := w.1; omega), if_pos ⟨rfl, rfl⟩]
          exact a4 q1 rfl w2
  · obtain ⟨c1, c2, c3, c4, c5, c6, c7⟩ := hq.as ha
    exact ⟨c1, c2, c3, c4, c5, c6, by omega⟩
theorem z_go_l {α : Type} {q : Nat} (g : Nat → List α × z_P) : z_go (.inl q) g = ([], .inl q) := rfl
theorem z_go_r {α : Type} {q : Nat} (g : Nat → List α × z_P) : z_go (.inr q) g = g q := rfl
/-- the end of a part -/
theorem b_269 (H : z_H n kd) {u : g_St} {r : z_P} (h : M_b n kd pl vl u r) {p : Nat} (hp : p < 4) : ∃ u', f_M_readPart_269 (some 1) (Int32.ofNat p) u = some ((), g_setI u' 1153 1 (g_I u' 1153 1 + 1)) ∧ M_b n kd pl vl u' (z_cyc kd (z_sea kd (z_ndr kd 27 r)).2).2 ∧ M_on [1428, 1492, 1556, 1620, 1684] p u u' ∧ ∀ q, (z_cyc kd (z_sea kd (z_ndr kd 27 r)).2).2 = .inr q → M_ps u' p (z_sea kd (z_ndr kd 27 r)).1 ∧ M_pc u' p (z_cyc kd (z_sea kd (z_ndr kd 27 r)).2).1 ∧ ∃ p0, r = .inr p0 ∧ p0 + 1 ≤ q := by
  obtain ⟨s2, a1, a2, a3⟩ := b_ndS H h (k := 27) (by decide) (c := 41) rfl
  obtain ⟨s4, b1, b2, b3, b4⟩ := b_tr H a2 hp
  refine ⟨s4, ?_, b2, (M_on.re.as a3).trans b3, fun q hq => ?_⟩
  · unfold f_M_readPart_269
    rw [x_nn, a1, x_c, x_nn, b1, x_c, x_gI, x_pI]
  · obtain ⟨c1, c2, p1, c3, c4⟩ := b4 q hq
    obtain ⟨p0, d1, d2, d3⟩ := z_ndr_ok c3
    exact ⟨c1, c2, p0, d1, by omega⟩
theorem b_part (H : z_H n kd) {u : g_St} {q0 : Nat} (h : M_b n kd pl vl u (.inr q0)) {C : Nat → Nat} (hc : M_c u C) (hb : z_bs 0 q0 C) {p : Nat} (hP : C 1153 = p) (hp : p < 4) (hs : C 2177 ≤ 4 * p) : ∃ u', f_M_readPart (some 1) u = some ((), u') ∧ M_b n kd pl vl u' (z_par kd vl q0).2 ∧ ∀ q, (z_par kd vl q0).2 = .inr q → M_low u u' C ∧ ∃ C', M_c u' C' ∧ z_le C C' ∧ C' 1153 = p + 1 ∧ C' 2177 = C 2177 + (z_par kd vl q0).1.2.2.1.length ∧ C' 2177 ≤ 4 * (p + 1) ∧ z_bs 0 q C' ∧ M_pa pl u' C' p (C 2177) (z_par kd vl q0).1 := by
  -- the name, the bracket
  obtain ⟨v, s4, a1, a2, a3, a4⟩ := b_nd H h (k := 36) (by decide)
  have B5 : M_b n kd pl vl (g_setAI s4 1236 p v) (z_ndr kd 36 (.inr q0)) := a2.sI (by decide) (by decide) _ _
  obtain ⟨s7, b1, b2, b3⟩ := b_ndS H B5 (k := 26) (by decide) (c := 40) rfl
  obtain ⟨s9, h9⟩ : ∃ s9, s9 = g_setAI s7 1300 p 0 := ⟨_, rfl⟩
  have B9 : M_b n kd pl vl s9 (z_ndr kd 26 (z_ndr kd 36 (.inr q0))) := by rw [h9]; exact b2.sI (by decide) (by decide) _ _
  have g9 : ∀ a j, g_AI s9 a j = if a = 1300 ∧ j = p then 0 else if a = 1236 ∧ j = p then v else g_AI u a j := fun a j => by rw [h9, x_AI_AI, b3.1, x_AI_AI, a3.1]
  have i9 : ∀ x, x ≠ 577 → x ≠ 833 → x ≠ 897 → g_I s9 x 1 = g_I u x 1 := fun x y1 y2 y3 => by
    rw [h9]
    show g_I s7 x 1 = _
    rw [b3.2 x y1 y2 y3]
    exact a3.2 x y1 y2 y3
  have start : f_M_readPart (some 1) u = f_M_readPart_32 200000 (some 1) (Int32.ofNat p) 1 s9 := by
    unfold f_M_readPart
    rw [x_gI, hc _ (by decide), hP, x_gR, (m_at h.1 m_k1217).1, x_nn, show (30 : Int32) = z_km 36 from rfl, a1, x_c, x_sI (by omega) (by rw [(m_at a2.1 m_k1217).2]; exact hp), x_nn, b1, x_c, x_gR, (m_at b2.1 m_k1281).1, x_sI (by omega) (by rw [(m_at b2.1 m_k1281).2]; exact hp), ← h9]
  -- columns
  have col : ∃ u1, f_M_readPart_32 200000 (some 1) (Int32.ofNat p) 1 s9 = f_M_readPart_102 (some 1) (Int32.ofNat p) u1 ∧ M_b n kd pl vl u1 (z_p1 kd q0).2 ∧ (z_p1 kd q0).1.length ≤ 3 ∧ (∀ q, (z_p1 kd q0).2 = .inr q → kd q0 = 36 ∧ M_jc s9 p (q0 + 2) q (z_p1 kd q0).1 u1) := by
    unfold z_p1
    cases hz : z_ndr kd 26 (z_ndr kd 36 (.inr q0)) with
    | inl q =>
      rw [hz] at B9
      refine ⟨s9, ?_, B9, Nat.zero_le _, (fun q w => by cases w)⟩
      rw [f_M_readPart_32, if_neg (by decide), x_nn, pM_badS B9.2.2.1.1, x_c, if_neg (by decide)]
    | inr q =>
      obtain ⟨p1, e1, e2, e3⟩ := z_ndr_ok hz
      obtain ⟨p2, f1, f2, f3⟩ := z_ndr_ok e1
      cases f1
      rw [hz] at B9
      obtain ⟨u1, x1, x2, x3, x4⟩ := b_cols H B9 hp (by rw [g9, if_pos ⟨rfl, rfl⟩])
      refine ⟨u1, x1, x2, x3, fun q' hq => ⟨f2, ?_⟩⟩
      have := x4 q' hq
      rw [show q0 + 2 = q by omega]
      exact this
  obtain ⟨u1, d1, d2, d3, d4⟩ := col
  -- up to the selections
  obtain ⟨s2, e1, e2, e3⟩ := b_ndS H d2 (k := 27) (by decide) (c := 41) rfl
  obtain ⟨v4, s5, f1, f2, f3, -⟩ := b_nd H e2 (k := 2) (by decide)
  obtain ⟨s6, k1, k2, k3⟩ := b_ndS H f2 (k := 26) (by decide) (c := 40) rfl
  obtain ⟨s15, h15⟩ : ∃ s15, s15 = g_setAI (g_setAI (g_setAI (g_setAI s6 1876 p (g_I s6 2177 1)) 1940 p 0) 31 p 0) 95 p 0 := ⟨_, rfl⟩
  have B15 : M_b n kd pl vl s15 (z_ndr kd 26 (z_ndr kd 2 (z_ndr kd 27 (z_p1 kd q0).2))) := by rw [h15]; exact (((k2.sI (by decide) (by decide) _ _).sI (by decide) (by decide) _ _).sI (by decide) (by decide) _ _).sI (by decide) (by decide) _ _
  have g15 : ∀ a j, g_AI s15 a j = if a = 95 ∧ j = p then 0 else if a = 31 ∧ j = p then 0 else if a = 1940 ∧ j = p then 0 else if a = 1876 ∧ j = p then g_I s6 2177 1 else g_AI u1 a j := fun a j => by rw [h15, x_AI_AI, x_AI_AI, x_AI_AI, x_AI_AI, k3.1, f3.1, e3.1]
  have as6 : M_as u1 s6 := (e3.trans f3).trans k3
  have e102 : f_M_readPart_102 (some 1) (Int32.ofNat p) u1 = f_M_readPart_153 200000 (some 1) (Int32.ofNat p) 1 s15 := by
    unfold f_M_readPart_102
    rw [x_nn, e1, x_c, x_nn, show (3 : Int32) = z_km 2 from rfl, f1, x_c, x_nn, k1, x_c, x_gR, (m_at k2.1 m_k1985).1, x_gI, x_sI (by omega) (by rw [(m_at k2.1 m_k1985).2]; omega), x_gR, show g_R (g_setAI s6 1876 p (g_I s6 2177 1)) 2049 1 = some 1940 from (m_at k2.1 m_k2049).1, x_sI (by omega) (by show p < g_ln s6 1940; rw [(m_at k2.1 m_k2049).2]; exact hp), x_gR, show g_R (g_setAI (g_setAI s6 1876 p (g_I s6 2177 1)) 1940 p 0) 1857 1 = some 31 from (m_at k2.1 m_k1857).1, x_sZ0 (by omega) (by show p < g_ln s6 31; rw [(m_at k2.1 m_k1857).2]; exact hp), x_gR, show g_R (g_setAI (g_setAI (g_setAI s6 1876 p (g_I s6 2177 1)) 1940 p 0) 31 p 0) 1921 1 = some 95 from (m_at k2.1 m_k1921).1, x_sZ0 (by omega) (by show p < g_ln s6 95; rw [(m_at k2.1 m_k1921).2]; exact hp), ← h15]
  -- selections
  have sel : ∃ u2, f_M_readPart_153 200000 (some 1) (Int32.ofNat p) 1 s15 = f_M_readPart_269 (some 1) (Int32.ofNat p) u2 ∧ M_b n kd pl vl u2 (z_p2 kd vl q0).2 ∧ (z_p2 kd vl q0).1.1.length ≤ 4 ∧ (∀ q, (z_p2 kd vl q0).2 = .inr q → kd q0 = 36 ∧ (∃ q1, M_jc s9 p (q0 + 2) q1 (z_p1 kd q0).1 u1) ∧ M_c s15 C ∧ ∃ C2, M_ju pl s15 C p 1 q (z_p2 kd vl q0).1.1 (z_p2 kd vl q0).1.2 u2 C2) := by
    unfold z_p2
    cases hz : z_ndr kd 26 (z_ndr kd 2 (z_ndr kd 27 (z_p1 kd q0).2)) with
    | inl q =>
      rw [hz] at B15
      refine ⟨s15, ?_, B15, Nat.zero_le _, (fun q w => by cases w)⟩
      rw [f_M_readPart_153, if_neg (by decide), x_nn, pM_badS B15.2.2.1.1, x_c, if_neg (by decide)]
    | inr q =>
      obtain ⟨p1, y1, -, y2⟩ := z_ndr_ok hz
      obtain ⟨p2, y3, -, y4⟩ := z_ndr_ok y1
      obtain ⟨p3, y5, -, y6⟩ := z_ndr_ok y3
      obtain ⟨z1, J⟩ := d4 p3 y5
      rw [hz] at B15
      have C15 : M_c s15 C := by
        rw [h15]
        refine ((((M_c.as (fun f hf => ?_) as6).sI _ _ _).sI _ _ _).sI _ _ _).sI _ _ _
        have w : f ≠ 577 ∧ f ≠ 833 ∧ f ≠ 897 := by
          have w : (z_cf.all fun f => decide (f ≠ 577 ∧ f ≠ 833 ∧ f ≠ 897)) = true := by decide
          exact of_decide_eq_true (List.all_eq_true.mp w f hf)
        rw [J.1 f w.1 w.2.1 w.2.2, i9 f w.1 w.2.1 w.2.2]
        exact hc f hf
      have lq := J.2.2.2.2.2.2
      obtain ⟨u2, x1, x2, x3, x4⟩ := b_un (pl := pl) (vl := vl) H hp hs hP 3 q [] [] s15 C 200000 rfl (by omega) B15 ⟨C15, z_le.re, M_low.re, hb.on0 (by omega), hP, rfl, by rw [g15, if_neg (fun w => by have := w.1; omega), if_neg (fun w => by have := w.1; omega), if_pos ⟨rfl, rfl⟩]; rfl, by rw [g15, if_neg (fun w => by have := w.1; omega), if_pos ⟨rfl, rfl⟩]; rfl, by rw [g15, if_pos ⟨rfl, rfl⟩]; rfl, fun _ _ => rfl, Nat.le_refl _, fun j hj => by cases hj⟩
      exact ⟨u2, x1, x2, x3, fun q' hq => ⟨z1, ⟨p3, J⟩, C15, x4 q' hq⟩⟩
  obtain ⟨u2, m1, m2, m3, m4⟩ := sel
  obtain ⟨u4, r1, r2, r3, r4⟩ := b_269 H m2 hp
  refine ⟨_, start.trans (d1.trans (e102.trans (m1.trans r1))), r2.pI (by decide) (by decide) (by decide) _, fun q hq => ?_⟩
  obtain ⟨t1, t2, q2, t3, t4⟩ := r4 q hq
  obtain ⟨kq, ⟨q1, J⟩, C15, C2, U⟩ := m4 q2 t3
  obtain ⟨J1, J2, J3, J4, J5, J6, J7⟩ := J
  obtain ⟨h1, h2, h3, h4, h5, h6, h7, h8, h9', h10, h11⟩ := U
  -- chain
  have L9 : M_low u s9 C := by
    rw [h9]
    exact ((((M_low.as a3).sI (f := 1153) (k := 1) (by decide) (by omega) _).trans (M_low.as b3) z_le.re)).sI (f := 1153) (k := 1) (by decide) (by omega) _
  have Lc : M_low s9 u1 C := fun g hg j hj => by
    by_cases w1 : g.1 = 1300
    · exact M_low.of (f := 1153) (k := 1) (by decide) (fun j hj => J3 j (by omega)) g hg w1 j hj
    · by_cases w2 : g.1 = 1364
      · exact M_low.of (f := 1153) (k := 3) (by decide) (fun j hj => J4 j (by omega)) g hg w2 j hj
      · rw [J2 g.1 w1 w2]
  have Ls : M_low u1 s15 C := by
    rw [h15]
    exact ((((M_low.as as6).sI (f := 1153) (k := 1) (by decide) (by omega) _).sI (f := 1153) (k := 1) (by decide) (by omega) _).sI (f := 1153) (k := 1) (by decide) (by omega) _).sI (f := 1153) (k := 1) (by decide) (by omega) _
  have Lo : ∀ D : Nat → Nat, D 1153 ≤ p → M_low u2 u4 D := fun D hD g hg j hj => by
    refine r3.1 g.1 j (fun w => ?_)
    have hm : ∀ a ∈ [1428, 1492, 1556, 1620, 1684], (a, 1153, 1) ∈ z_gp := by decide
    have := z_gpu g hg _ (hm g.1 w.1) rfl
    rw [this] at hj
    have hj' : j < 1 * D 1153 := hj
    have := w.2
    omega
  have up : z_le C2 (z_up C2 1153 (p + 1)) := z_le.re.up (by omega)
  have L4 : M_low u4 (g_setI u4 1153 1 (g_I u4 1153 1 + 1)) C2 := M_low.re.pI _ _
  have c4 : M_c u4 C2 := r3.c h1
  have g4 : ∀ a, a ∉ [1428, 1492, 1556, 1620, 1684] → ∀ j, g_AI (g_setI u4 1153 1 (g_I u4 1153 1 + 1)) a j = g_AI u2 a j := fun a ha j => r3.1 a j (fun w => ha w.1)
  have i6 : g_I s6 2177 1 = Int32.ofNat (C 2177) := by
    have := C15 2177 (by decide)
    rw [h15] at this
    exact this
  refine ⟨((((L9.trans Lc z_le.re).trans Ls z_le.re).trans h3 z_le.re).trans (Lo C (by omega)) z_le.re).trans L4 h2, z_up C2 1153 (p + 1), ?_, h2.trans up, rfl, ?_, ?_, ?_, ?_, ?_, ?_, fun j hj => ?_, ?_, ?_, ?_, ?_, ?_, t1, t2, d3, m3⟩
  · rw [c4 _ (by decide), h5, x_p1]
    exact c4.pI 1153 (p + 1)
  · exact h6
  · show C2 2177 ≤ 4 * (p + 1)
    omega
  · exact h4.on (by omega)
  · show p < p + 1
    omega
  · rw [g4 1236 (by decide), h10 1236 (by omega), g15, if_neg (fun w => by have := w.1; omega), if_neg (fun w => by have := w.1; omega), if_neg (fun w => by have := w.1; omega), if_neg (fun w => by have := w.1; omega), J2 1236 (by decide) (by decide), g9, if_neg (fun w => by have := w.1; omega), if_pos ⟨rfl, rfl⟩]
    exact a4 q0 rfl kq
  · rw [g4 1300 (by decide), h10 1300 (by omega), g15, if_neg (fun w => by have := w.1; omega), if_neg (fun w => by have := w.1; omega), if_neg (fun w => by have := w.1; omega), if_neg (fun w => by have := w.1; omega)]
    exact J5
  · rw [g4 1364 (by decide), h10 1364 (by omega), g15, if_neg (fun w => by have := w.1; omega), if_neg (fun w => by have := w.1; omega), if_neg (fun w => by have := w.1; omega), if_neg (fun w => by have := w.1; omega)]
    exact J6 j hj
  · rw [g4 1876 (by decide), h10 1876 (by omega), g15, if_neg (fun w => by have := w.1; omega), if_neg (fun w => by have := w.1; omega), if_neg (fun w => by have := w.1; omega), if_pos ⟨rfl, rfl⟩]
    exact i6
  · have : ¬ C2 1153 < p := by omega
    exact (h11.low (Lo C2 (by omega)) z_le.re).low L4 up
  · rw [g4 1940 (by decide)]; exact h7
  · rw [g4 31 (by decide)]; exact h8
  · rw [g4 95 (by decide)]; exact h9'
end
