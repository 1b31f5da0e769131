/-! THE CHECK: conditions are resolved (reference) -/
def M_rex (nw : Nat → Nat) (u : g_St) (ps : List z_Pa) (tc : Nat) (cols : Nat → Nat) (srs : List Nat) (wi : Option Nat) (e : Nat) (L : z_Ex) : Prop := ∃ o, g_AI u 2644 e = Int32.ofNat o ∧ M_ops u o L ∧ o + L.length ≤ 205 ∧ ∀ j, j < L.length → (L.getD j (false, 0, 0)).2.1 = 2 → M_rop nw u ps tc cols srs wi (o + j) (L.getD j (false, 0, 0)).2.2
/-- what belongs to tokens before p is kept -/
def M_kt (u v : g_St) (p : Nat) : Prop := g_AI v 2900 = g_AI u 2900 ∧ ∀ i t, t < p → g_AI u 2900 i = Int32.ofNat t → g_AI v 2964 i = g_AI u 2964 i ∧ g_AI v 3028 i = g_AI u 3028 i
theorem M_kt.re {u : g_St} {p : Nat} : M_kt u u p := ⟨rfl, fun _ _ _ _ => ⟨rfl, rfl⟩⟩
theorem M_kt.trans {u v w : g_St} {p q : Nat} (h : M_kt u v p) (g : M_kt v w q) (l : p ≤ q) : M_kt u w p := ⟨g.1.trans h.1, fun i t h1 h2 => by
  obtain ⟨a1, a2⟩ := h.2 i t h1 h2
  obtain ⟨b1, b2⟩ := g.2 i t (by omega) (by rw [h.1]; exact h2)
  exact ⟨b1.trans a1, b2.trans a2⟩⟩
theorem M_kt.W {wI wA : List Nat} {u v : g_St} {p : Nat} (w : z_W wI wA u v) (h : ∀ a ∈ [2900, 2964, 3028], a ∉ wA) : M_kt u v p := by
  have A : ∀ a, a ∈ [2900, 2964, 3028] → g_AI v a = g_AI u a := fun a ha => (w.2.2.2.2.2.2.2.2 a (h a ha)).1
  exact ⟨A _ (by decide), fun i t _ _ => ⟨by rw [A _ (by decide)], by rw [A _ (by decide)]⟩⟩
def z_wA3 : List Nat := [2964, 3028, 3220]
theorem M_ops.W {wI wA : List Nat} {u v : g_St} {o : Nat} {L : z_Ex} (h : M_ops u o L) (w : z_W wI wA u v) (h1 : ∀ a ∈ wA, a ∈ z_wA3) : M_ops v o L := by
  have A : ∀ a, a ∉ z_wA3 → g_AI v a = g_AI u a := fun a ha => (w.2.2.2.2.2.2.2.2 a (fun q => ha (h1 a q))).1
  intro j hj
  obtain ⟨a, b, c⟩ := h j hj
  exact ⟨by rw [A _ (by decide)]; exact a, by rw [A _ (by decide)]; exact b, by rw [A _ (by decide)]; exact c⟩
theorem M_rex.kt {kd nw : Nat → Nat} {wI wA : List Nat} {u v : g_St} {ps : List z_Pa} {tc : Nat} {cols : Nat → Nat} {srs : List Nat} {wi : Option Nat} {e : Nat} {L : z_Ex} (h : M_rex nw u ps tc cols srs wi e L) (w : z_W wI wA u v) (h1 : ∀ a ∈ wA, a ∈ z_wA3) {p0 p : Nat} (k : M_kt u v p) (hL : z_wex kd p0 p L) : M_rex nw v ps tc cols srs wi e L := by
  obtain ⟨o, a1, a2, a3, a4⟩ := h
  have A : ∀ a, a ∉ z_wA3 → g_AI v a = g_AI u a := fun a ha => (w.2.2.2.2.2.2.2.2 a (fun q => ha (h1 a q))).1
  refine ⟨o, by rw [A _ (by decide)]; exact a1, a2.W w h1, a3, fun j hj hk => ?_⟩
  obtain ⟨b1, b2⟩ := a4 j hj hk
  obtain ⟨c1, c2⟩ := k.2 (o + j) _ (hL _ (z_getD_m hj)).2.1 (a2 j hj).2.2
  exact ⟨by rw [c1]; exact b1, by rw [c2]; exact b2⟩
def z_bnt (bad : Nat → Bool) (pl : Nat → Nat) (a : Option (Nat × Nat)) (b : z_Bs) : Option (Nat × Nat) := z_xnt bad pl (z_xnt bad pl a b.1) b.2.2
def M_rcb (nw : Nat → Nat) (u : g_St) (ps : List z_Pa) (tc : Nat) (cols : Nat → Nat) (srs : List Nat) (wi : Option Nat) (c : Nat) (b : z_Bs) : Prop := (∃ e, e < 210 ∧ g_AI u 3412 c = Int32.ofNat e ∧ M_rex nw u ps tc cols srs wi e b.1) ∧ (b.2.1 = 9 ∨ ∃ e, e < 210 ∧ g_AI u 3476 c = Int32.ofNat e ∧ M_rex nw u ps tc cols srs wi e b.2.2)
theorem M_rcb.kt {kd nw : Nat → Nat} {wI wA : List Nat} {u v : g_St} {ps : List z_Pa} {tc : Nat} {cols : Nat → Nat} {srs : List Nat} {wi : Option Nat} {c : Nat} {b : z_Bs} (h : M_rcb nw u ps tc cols srs wi c b) (w : z_W wI wA u v) (h1 : ∀ a ∈ wA, a ∈ z_wA3) {p0 p : Nat} (k : M_kt u v p) (hL : z_wb kd p0 p b) : M_rcb nw v ps tc cols srs wi c b := by
  have A : ∀ a, a ∉ z_wA3 → g_AI v a = g_AI u a := fun a ha => (w.2.2.2.2.2.2.2.2 a (fun q => ha (h1 a q))).1
  obtain ⟨⟨e, a0, a1, a2⟩, a3⟩ := h
  refine ⟨⟨e, a0, by rw [A _ (by decide)]; exact a1, a2.kt w h1 k hL.1⟩, ?_⟩
  rcases a3 with a3 | ⟨e2, a40, a4, a5⟩
  · exact Or.inl a3
  · exact Or.inr ⟨e2, a40, by rw [A _ (by decide)]; exact a4, a5.kt w h1 k hL.2.1⟩
section
variable {n : Nat} {kd pl nw nv : Nat → Nat} {wd vl : Nat → Int64}
/-- b_rex, in words of tokens; what was resolved in the same surroundings stays -/
theorem b_rxk (NM : z_NM n kd wd vl nw nv) (H : z_H n kd) (hpl : ∀ i, i ≤ n → pl i ≤ 400) {u0 : g_St} {C : Nat → Nat} {x : z_Qu} {tc : Nat} {cols : Nat → Nat} (K : M_ck n kd pl vl u0 C x tc cols) (hp : ∀ k, k < x.2.1.length → z_pnm n kd (x.2.1.getD k z_pa0)) (hw3 : ∀ k, (x.2.1.getD k z_pa0).2.1.length ≤ 3) {s k0 : Nat} {srs : List Nat} (hs : M_ss n kd nw u0 C x.2.1 tc s k0 srs) {wi : Option (Nat × Nat)} (hwi : M_wi n kd nw u0 x.2.1 tc wi) {N e : Nat} (hN : N ≤ 205) (he : e < 210) {L : z_Ex} (hL : M_ex u0 N e L) {p q : Nat} (hx : z_wex kd p q L) (hq : q ≤ n) {a0 : Option (Nat × Nat)} (ha : M_nt u0 a0) :
    ∃ u', f_M_resolveExpression (some 1) (Int32.ofNat s) (Int32.ofNat e) (z_wic wi) u0 = some ((), u') ∧ z_W [833, 897] [2964, 3028] u0 u' ∧ M_kt u0 u' p ∧ M_rex nw u' x.2.1 tc cols srs (wi.map (·.2)) e L ∧ (∀ e' L', M_rex nw u0 x.2.1 tc cols srs (wi.map (·.2)) e' L' → z_wex kd 0 n L' → M_rex nw u' x.2.1 tc cols srs (wi.map (·.2)) e' L') ∧ M_nt u' (z_xnt (fun t => z_tbad false (z_tcl nw x.2.1 tc cols srs (wi.map (·.2)) t)) pl a0 L) := by
  obtain ⟨u', a1, a2, ⟨o, b1, b2, b3, b4, b5⟩, a4⟩ := b_rex NM H hpl K hp hw3 hs hwi hN he hL hx hq ha
  have hn := H.2.1
  have A : ∀ a, a ∉ [2964, 3028] → g_AI u' a = g_AI u0 a := fun a ha => (a2.2.2.2.2.2.2.2.2 a ha).1
  have sub : ∀ a ∈ [2964, 3028], a ∈ z_wA3 := by decide
  refine ⟨u', a1, a2, ⟨A _ (by decide), fun i t h1 h2 => b4 i (fun j hj e => ?_)⟩, ⟨o, by rw [A _ (by decide)]; exact b1, b2.W a2 sub, by omega, b5⟩, fun e' L' hr hl => ?_, a4⟩
  · obtain ⟨g1, g2, -⟩ := hx _ (z_getD_m (d := (false, 0, 0)) hj)
    have e2 := (b2 j hj).2.2
    rw [← e, h2, x_eq (by omega) (by omega)] at e2
    omega
  · obtain ⟨o', c1, c2, c3, c4⟩ := hr
    refine ⟨o', by rw [A _ (by decide)]; exact c1, c2.W a2 sub, c3, fun j hj hk => ?_⟩
    by_cases w : ∃ j', j' < L.length ∧ o' + j = o + j'
    · obtain ⟨j', w1, w2⟩ := w
      obtain ⟨f1, f2, f3⟩ := c2 j hj
      obtain ⟨g1, g2, g3⟩ := b2 j' w1
      have l1 := (hl _ (z_getD_m (d := (false, 0, 0)) hj)).2.1
      have l2 := (hx _ (z_getD_m (d := (false, 0, 0)) w1)).2.1
      have l3 := (hx _ (z_getD_m (d := (false, 0, 0)) w1)).2.2
      rw [w2, g2, hk, x_eq (by rcases l3 with q | q | q <;> omega) (by omega)] at f2
      rw [w2, g3, x_eq (by omega) (by omega)] at f3
      have := b5 j' w1 f2
      rw [w2, ← f3]
      exact this
    · obtain ⟨d1, d2⟩ := b4 (o' + j) (fun j' h1 h2 => w ⟨j', h1, h2⟩)
      obtain ⟨f1, f2⟩ := c4 j hj hk
      exact ⟨by rw [d1]; exact f1, by rw [d2]; exact f2⟩
theorem M_ex.W {wI wA : List Nat} {u v : g_St} {N e : Nat} {L : z_Ex} (h : M_ex u N e L) (w : z_W wI wA u v) (h1 : ∀ a ∈ wA, a ∈ z_wA3) : M_ex v N e L := by
  have A : ∀ a, a ∉ z_wA3 → g_AI v a = g_AI u a := fun a ha => (w.2.2.2.2.2.2.2.2 a (fun q => ha (h1 a q))).1
  obtain ⟨o, a1, a2, a3, a4⟩ := h
  exact ⟨o, by rw [A _ (by decide)]; exact a1, by rw [A _ (by decide)]; exact a2, a3.W w h1, a4⟩
theorem b_rcb (NM : z_NM n kd wd vl nw nv) (H : z_H n kd) (hpl : ∀ i, i ≤ n → pl i ≤ 400) {u0 : g_St} {C : Nat → Nat} {x : z_Qu} {tc : Nat} {cols : Nat → Nat} (K : M_ck n kd pl vl u0 C x tc cols) (hp : ∀ k, k < x.2.1.length → z_pnm n kd (x.2.1.getD k z_pa0)) (hw3 : ∀ k, (x.2.1.getD k z_pa0).2.1.length ≤ 3) {s k0 : Nat} {srs : List Nat} (hs : M_ss n kd nw u0 C x.2.1 tc s k0 srs) {wi : Option (Nat × Nat)} (hwi : M_wi n kd nw u0 x.2.1 tc wi) {c : Nat} (hc : c < 120) {b : z_Bs} (hb : M_cb u0 (C 3073) (C 3009) c b) {p q : Nat} (hx : z_wb kd p q b) (hq : q ≤ n) {a0 : Option (Nat × Nat)} (ha : M_nt u0 a0) :
    ∃ u', f_M_resolveCondition (some 1) (Int32.ofNat s) (Int32.ofNat c) (z_wic wi) u0 = some ((), u') ∧ z_W [833, 897] [2964, 3028] u0 u' ∧ M_kt u0 u' p ∧ M_rcb nw u' x.2.1 tc cols srs (wi.map (·.2)) c b ∧ M_nt u' (z_bnt (fun t => z_tbad false (z_tcl nw x.2.1 tc cols srs (wi.map (·.2)) t)) pl a0 b) := by
  have hm := K.1
  have lim : z_lim C := K.2.2.1.2.2.2.2.2.2.2.2.2.2
  have sub : ∀ a ∈ [2964, 3028], a ∈ z_wA3 := by decide
  obtain ⟨⟨e1, b1, b2, b3⟩, b4⟩ := hb
  obtain ⟨x1, x2, x3, x4⟩ := hx
  obtain ⟨u1, a1, a2, a3, a4, a5, a6⟩ := b_rxk NM H hpl K hp hw3 hs hwi (by have := lim.2.2.2.1; omega) (by have := lim.2.2.1; omega) b3 x1 hq ha
  have hm1 := a2.fx hm
  have A1 : ∀ a, a ∉ [2964, 3028] → g_AI u1 a = g_AI u0 a := fun a ha => (a2.2.2.2.2.2.2.2.2 a ha).1
  have st : f_M_resolveCondition (some 1) (Int32.ofNat s) (Int32.ofNat c) (z_wic wi) u0 = (if g_AI u0 3284 c = 0 then g_gR u1 4097 (some 1) fun p7 => g_aI u1 p7 (Int32.ofNat c) fun i8 => g_c (g_nn (some 1) (f_M_resolveExpression (some 1) (Int32.ofNat s) i8 (z_wic wi) u1)) fun _ s10 => some ((), s10) else some ((), u1)) := by
    unfold f_M_resolveCondition
    rw [x_gR, (m_at hm m_k4033).1, x_aI (by omega) (by rw [(m_at hm m_k4033).2]; exact hc), b2, x_nn, a1, x_c, x_gR, (m_at hm1 m_k3905).1, x_aI (by omega) (by rw [(m_at hm1 m_k3905).2]; exact hc), A1 3284 (by decide)]
  rcases b4 with ⟨c1, c2⟩ | ⟨c1, c2, c3, e2, c4, c5, c6⟩
  · rw [c2, if_neg (by decide)] at st
    have e22 : b.2.2 = [] := by
      rcases x4 with z | z
      · exact z.2
      · exfalso; omega
    refine ⟨u1, st, a2, a3, ⟨⟨e1, by have := lim.2.2.1; omega, by rw [A1 _ (by decide)]; exact b2, a4⟩, Or.inl c1⟩, ?_⟩
    unfold z_bnt
    rw [e22]
    exact a6
  · rw [c2, if_pos rfl] at st
    have K1 := K.W a2 (by decide) (by decide) (by decide) (by decide)
    obtain ⟨u2, d1, d2, d3, d4, d5, d6⟩ := b_rxk NM H hpl K1 hp hw3 (hs.W a2 (by decide)) (hwi.W a2 (by decide)) (by have := lim.2.2.2.1; omega) (by have := lim.2.2.1; omega) (c6.W a2 sub) x2 hq a6
    have A2 : ∀ a, a ∉ [2964, 3028] → g_AI u2 a = g_AI u1 a := fun a ha => (d2.2.2.2.2.2.2.2.2 a ha).1
    refine ⟨u2, ?_, a2.trans d2, a3.trans d3 (Nat.le_refl _), ⟨⟨e1, by have := lim.2.2.1; omega, by rw [A2 _ (by decide), A1 _ (by decide)]; exact b2, d5 e1 b.1 a4 (x1.mono (Nat.zero_le _) hq)⟩, Or.inr ⟨e2, by have := lim.2.2.1; omega, by rw [A2 _ (by decide), A1 _ (by decide)]; exact c5, d4⟩⟩, d6⟩
    rw [st, x_gR, (m_at hm1 m_k4097).1, x_aI (by omega) (by rw [(m_at hm1 m_k4097).2]; exact hc), A1 3476 (by decide), c5, x_nn, d1, x_c]
end
