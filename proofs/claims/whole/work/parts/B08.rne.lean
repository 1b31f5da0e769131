/-! THE CHECK: lists of things are resolved one by one (reference) -/
/-- meanings that were right stay right -/
def M_mk (nw : Nat → Nat) (n : Nat) (ps : List z_Pa) (tc : Nat) (u v : g_St) : Prop := (g_AI v 3092 = g_AI u 3092 ∧ g_AI v 3156 = g_AI u 3156) ∧ ∀ k t, t < n → M_so u k t → g_AI u 3220 k = z_mc (z_mng nw ps tc t) → g_AI v 3220 k = z_mc (z_mng nw ps tc t)
theorem M_mk.re {nw : Nat → Nat} {n : Nat} {ps : List z_Pa} {tc : Nat} {u : g_St} : M_mk nw n ps tc u u := ⟨⟨rfl, rfl⟩, fun _ _ _ _ h => h⟩
theorem M_mk.trans {nw : Nat → Nat} {n : Nat} {ps : List z_Pa} {tc : Nat} {u v w : g_St} (h : M_mk nw n ps tc u v) (g : M_mk nw n ps tc v w) : M_mk nw n ps tc u w := ⟨⟨g.1.1.trans h.1.1, g.1.2.trans h.1.2⟩, fun k t h1 h2 h3 => g.2 k t h1 ⟨by rw [h.1.1]; exact h2.1, by rw [h.1.2]; exact h2.2⟩ (h.2 k t h1 h2 h3)⟩
theorem M_mk.W {nw : Nat → Nat} {n : Nat} {ps : List z_Pa} {tc : Nat} {wI wA : List Nat} {u v : g_St} (w : z_W wI wA u v) (h : ∀ a ∈ [3092, 3156, 3220], a ∉ wA) : M_mk nw n ps tc u v := by
  have A : ∀ a, a ∈ [3092, 3156, 3220] → g_AI v a = g_AI u a := fun a ha => (w.2.2.2.2.2.2.2.2 a (h a ha)).1
  exact ⟨⟨A _ (by decide), A _ (by decide)⟩, fun k t _ _ h => by rw [A _ (by decide)]; exact h⟩
theorem b_rlp {nw : Nat → Nat} {n : Nat} {ps : List z_Pa} {tc : Nat} {α β : Type} (l : List α) (d0 : α) (P : Nat → Nat → α → Prop) (K : Nat → Nat → g_St → Option β) (E : g_St → Option β) (I : g_St → Prop) (R : g_St → Nat → α → Prop) (nt : Option (Nat × Nat) → α → Option (Nat × Nat)) (Q : Nat)
    (hE : ∀ f u, I u → K (f + 1) l.length u = E u)
    (turn : ∀ f i u a p1 q1, i < l.length → I u → M_nt u a → P p1 q1 (l.getD i d0) → q1 ≤ Q → ∃ v, K (f + 1) i u = K f (i + 1) v ∧ I v ∧ z_W [833, 897] z_wA3 u v ∧ M_kt u v p1 ∧ M_mk nw n ps tc u v ∧ R v i (l.getD i d0) ∧ M_nt v (nt a (l.getD i d0)))
    (keep : ∀ u v i y p1 q1 p, R u i y → I u → I v → z_W [833, 897] z_wA3 u v → M_kt u v p → M_mk nw n ps tc u v → P p1 q1 y → q1 ≤ p → R v i y) :
    ∀ (t : List α) (i p q : Nat) (u : g_St) (a : Option (Nat × Nat)) (f : Nat), l.drop i = t → i ≤ l.length → t.length < f → I u → M_nt u a → z_ch P t p q → q ≤ Q → (∀ j, j < i → R u j (l.getD j d0) ∧ ∃ p1 q1, P p1 q1 (l.getD j d0) ∧ q1 ≤ p) →
      ∃ u', K f i u = E u' ∧ I u' ∧ z_W [833, 897] z_wA3 u u' ∧ M_kt u u' p ∧ M_mk nw n ps tc u u' ∧ (∀ j, j < l.length → R u' j (l.getD j d0)) ∧ M_nt u' (t.foldl nt a) := by
  intro t
  induction t with
  | nil =>
    intro i p q u a f h1 h2 h3 h4 h5 h6 hQ h7
    have hi : l.length ≤ i := List.drop_eq_nil_iff.mp h1
    obtain ⟨f, rfl⟩ : ∃ m, f = m + 1 := ⟨f - 1, by omega⟩
    have e : i = l.length := by omega
    rw [e]
    exact ⟨u, hE f u h4, h4, z_W.re, M_kt.re, M_mk.re, fun j hj => (h7 j (by omega)).1, h5⟩
  | cons y t ih =>
    intro i p q u a f h1 h2 h3 h4 h5 h6 hQ h7
    have hi : i < l.length := by
      by_cases w : i < l.length
      · exact w
      · rw [List.drop_eq_nil_of_le (by omega)] at h1; cases h1
    have hdr : l.drop (i + 1) = t := by
      have := List.drop_drop (i := 1) (j := i) (l := l)
      rw [h1] at this
      rw [← this]; rfl
    have hyi : l.getD i d0 = y := by
      have := List.drop_eq_getElem_cons hi
      rw [h1] at this
      rw [List.getD_eq_getElem?_getD, List.getElem?_eq_getElem hi]
      exact (List.cons.inj this).1.symm
    obtain ⟨f, rfl⟩ : ∃ m, f = m + 1 := ⟨f - 1, by omega⟩
    obtain ⟨p1, q1, g1, g2, g3, g4⟩ := h6
    rw [← hyi] at g3
    obtain ⟨v, a1, a2, a3, a4, a4', a5, a6⟩ := turn f i u a p1 q1 hi h4 h5 g3 (Nat.le_trans g4.le hQ)
    rw [hyi] at a6
    obtain ⟨u', b1, b2, b3, b4, b4', b5, b6⟩ := ih (i + 1) q1 q v _ f hdr (by omega) (by rw [List.length_cons] at h3; omega) a2 a6 g4 hQ (fun j hj => by
      by_cases w : j = i
      · rw [w]; exact ⟨a5, p1, q1, g3, Nat.le_refl _⟩
      · obtain ⟨c1, p2, q2, c2, c3⟩ := h7 j (by omega)
        exact ⟨keep u v j _ p2 q2 p1 c1 h4 a2 a3 a4 a4' c2 (by omega), p2, q2, c2, by omega⟩)
    refine ⟨u', a1.trans b1, b2, a3.trans b3, ?_, a4'.trans b4', b5, b6⟩
    have k1 := a4.trans b4 g2
    exact ⟨k1.1, fun i t h8 h9 => k1.2 i t (by omega) h9⟩
theorem M_so.tok {u : g_St} {k t t' : Nat} (h : M_so u k t) (h' : M_so u k t') (ht : t < 2 ^ 31) (ht' : t' < 2 ^ 31) : t = t' := by
  have := h.1.symm.trans h'.1
  rw [x_eq ht ht'] at this
  exact this
theorem z_wb.mono {kd : Nat → Nat} {p q p' q' : Nat} {b : z_Bs} (h : z_wb kd p q b) (hp : p' ≤ p) (hq : q ≤ q') : z_wb kd p' q' b := ⟨h.1.mono hp hq, h.2.1.mono hp hq, h.2.2⟩
section
variable {n : Nat} {kd pl nw nv : Nat → Nat} {wd vl : Nat → Int64}
/-- a source's meaning is written: what was known stays -/
theorem M_ss.so {u v : g_St} {C : Nat → Nat} {ps : List z_Pa} {tc s k0 k t : Nat} {srs : List Nat} (hn : n ≤ 400) (h : M_ss n kd nw u C ps tc s k0 srs) (w : z_W [833, 897] [3220] u v) (h1 : ∀ j, j ≠ k → g_AI v 3220 j = g_AI u 3220 j) (h2 : g_AI v 3220 k = z_mc (z_mng nw ps tc t)) (h3 : M_so u k t) (ht : t < n) : M_ss n kd nw v C ps tc s k0 srs := by
  have A : ∀ a, a ∉ [3220] → g_AI v a = g_AI u a := fun a ha => (w.2.2.2.2.2.2.2.2 a ha).1
  obtain ⟨a1, a2, a3, ⟨a4, a5⟩, a6, a7⟩ := h
  refine ⟨a1, by rw [A _ (by decide)]; exact a2, by rw [A _ (by decide)]; exact a3, ⟨a4, fun j hj => ⟨by rw [A _ (by decide)]; exact (a5 j hj).1, by rw [A _ (by decide)]; exact (a5 j hj).2⟩⟩, a6, fun j hj => ⟨(a7 j hj).1, (a7 j hj).2.1, ?_⟩⟩
  by_cases y : k0 + j = k
  · have e := a5 j hj
    rw [y] at e
    have := e.tok h3 (by have := (a7 j hj).1.1; omega) (by omega)
    rw [y, h2, this]
  · rw [h1 _ y]; exact (a7 j hj).2.2
def M_rne (n : Nat) (kd : Nat → Nat) (nw : Nat → Nat) (u : g_St) (ps : List z_Pa) (tc : Nat) (cols : Nat → Nat) (srs : List Nat) (c : Nat) (y : Nat × List z_Bs) : Prop := (∃ k, g_AI u 3540 c = Int32.ofNat k ∧ M_wi n kd nw u ps tc (some (k, y.1))) ∧ ∀ j, j < y.2.length → ∃ d, d < 120 ∧ g_AI u 3668 (3 * c + j) = Int32.ofNat d ∧ M_rcb nw u ps tc cols srs (some y.1) d (y.2.getD j ([], 0, []))
def z_nnt (nw pl : Nat → Nat) (x : z_Qu) (tc : Nat) (cols : Nat → Nat) (srs : List Nat) (ow : Nat) (a : Option (Nat × Nat)) (y : Nat × List z_Bs) : Option (Nat × Nat) := y.2.foldl (z_bnt (fun t => z_tbad false (z_tcl nw x.2.1 tc cols srs (some y.1) t)) pl) (z_nti2 (z_slt nw srs (y.1 + 1) none).isSome (z_nti2 (z_sbad x.1 ow (z_mng nw x.2.1 tc y.1)) a (pl y.1)) (pl (y.1 + 1)))
theorem M_cb.W {wI wA : List Nat} {u v : g_St} {N E c : Nat} {b : z_Bs} (h : M_cb u N E c b) (w : z_W wI wA u v) (h1 : ∀ a ∈ wA, a ∈ z_wA3) : M_cb v N E c b := by
  have A : ∀ a, a ∉ z_wA3 → g_AI v a = g_AI u a := fun a ha => (w.2.2.2.2.2.2.2.2 a (fun q => ha (h1 a q))).1
  obtain ⟨⟨e1, b1, b2, b3⟩, b4⟩ := h
  refine ⟨⟨e1, b1, by rw [A _ (by decide)]; exact b2, b3.W w h1⟩, ?_⟩
  rcases b4 with ⟨c1, c2⟩ | ⟨c1, c2, c3, e2, c4, c5, c6⟩
  · exact Or.inl ⟨c1, by rw [A _ (by decide)]; exact c2⟩
  · exact Or.inr ⟨c1, by rw [A _ (by decide)]; exact c2, by rw [A _ (by decide)]; exact c3, e2, c4, by rw [A _ (by decide)]; exact c5, c6.W w h1⟩
theorem M_wi.A {wI wA : List Nat} {u v : g_St} {ps : List z_Pa} {tc : Nat} {wi : Option (Nat × Nat)} (h : M_wi n kd nw u ps tc wi) (w : z_W wI wA u v) (h1 : ∀ a ∈ wA, a ∈ z_wA3) (h2 : g_AI v 3220 = g_AI u 3220) : M_wi n kd nw v ps tc wi := by
  have A : ∀ a, a ∉ z_wA3 → g_AI v a = g_AI u a := fun a ha => (w.2.2.2.2.2.2.2.2 a (fun q => ha (h1 a q))).1
  intro y hy
  obtain ⟨a1, ⟨a2, a3⟩, a4, a5, a6⟩ := h y hy
  exact ⟨a1, ⟨by rw [A _ (by decide)]; exact a2, by rw [A _ (by decide)]; exact a3⟩, a4, a5, by rw [h2]; exact a6⟩
theorem M_ss.A {wI wA : List Nat} {u v : g_St} {C : Nat → Nat} {ps : List z_Pa} {tc s k0 : Nat} {srs : List Nat} (h : M_ss n kd nw u C ps tc s k0 srs) (w : z_W wI wA u v) (h1 : ∀ a ∈ wA, a ∈ z_wA3) (h2 : g_AI v 3220 = g_AI u 3220) : M_ss n kd nw v C ps tc s k0 srs := by
  have A : ∀ a, a ∉ z_wA3 → g_AI v a = g_AI u a := fun a ha => (w.2.2.2.2.2.2.2.2 a (fun q => ha (h1 a q))).1
  obtain ⟨z1, z2, z3, ⟨z4, z5⟩, z6, z7⟩ := h
  exact ⟨z1, by rw [A _ (by decide)]; exact z2, by rw [A _ (by decide)]; exact z3, ⟨z4, fun j hj => ⟨by rw [A _ (by decide)]; exact (z5 j hj).1, by rw [A _ (by decide)]; exact (z5 j hj).2⟩⟩, z6, fun j hj => ⟨(z7 j hj).1, (z7 j hj).2.1, by rw [h2]; exact (z7 j hj).2.2⟩⟩
theorem b_rne (NM : z_NM n kd wd vl nw nv) (H : z_H n kd) (hpl : ∀ i, i ≤ n → pl i ≤ 400) {u0 : g_St} {C : Nat → Nat} {x : z_Qu} {tc : Nat} {cols : Nat → Nat} (K : M_ck n kd pl vl u0 C x tc cols) (hp : ∀ k, k < x.2.1.length → z_pnm n kd (x.2.1.getD k z_pa0)) (hw3 : ∀ k, (x.2.1.getD k z_pa0).2.1.length ≤ 3) {s k0 : Nat} {srs : List Nat} (hs : M_ss n kd nw u0 C x.2.1 tc s k0 srs) {ow : Nat} (how : g_AI u0 2004 s = Int32.ofNat ow) (how4 : ow ≤ 4) {c : Nat} {y : Nat × List z_Bs} (hc : M_co u0 C c (.inr y)) {p q : Nat} (hx : z_wco kd p q (.inr y)) (hq : q ≤ n) {a0 : Option (Nat × Nat)} (ha : M_nt u0 a0) :
    ∃ u', f_M_resolveNotExists (some 1) (Int32.ofNat s) (Int32.ofNat c) u0 = some ((), u') ∧ z_W [833, 897] z_wA3 u0 u' ∧ M_kt u0 u' p ∧ M_ss n kd nw u' C x.2.1 tc s k0 srs ∧ M_mk nw n x.2.1 tc u0 u' ∧ M_rne n kd nw u' x.2.1 tc cols srs c y ∧ M_nt u' (z_nnt nw pl x tc cols srs ow a0 y) := by
  have hm := K.1
  have hn := H.2.1
  have lim : z_lim C := K.2.2.1.2.2.2.2.2.2.2.2.2.2
  obtain ⟨hc1, hc2, ⟨k, hc3, hc4, hc5⟩, hc6, hc7, hc8⟩ := hc
  obtain ⟨x1, x2, x3, x4⟩ := hx
  have l4 := x4.le
  have cl : c < 120 := by have := lim.2.2.2.2.2; omega
  have kl : k < 100 := by have := lim.2.2.2.2.1; omega
  have it : z_isn n kd y.1 := ⟨by omega, x2⟩
  have ia : z_isn n kd (y.1 + 1) := ⟨by omega, x3⟩
  obtain ⟨u1, a1, a2, a3, a4, a5⟩ := b_rso NM H hpl K (fun k hk => (hp k hk).1) hs.1 kl hc5 it how how4 ha
  have hs1 := hs.so hn a2 a3 a4 hc5 it.1
  have K1 := K.W a2 (by decide) (by decide) (by decide) (by decide)
  have hm1 := K1.1
  have A1 : ∀ a, a ∉ [3220] → g_AI u1 a = g_AI u0 a := fun a ha => (a2.2.2.2.2.2.2.2.2 a ha).1
  have so1 : M_so u1 k y.1 := ⟨by rw [A1 _ (by decide)]; exact hc5.1, by rw [A1 _ (by decide)]; exact hc5.2⟩
  have wi1 : M_wi n kd nw u1 x.2.1 tc (some (k, y.1)) := fun z hz => by cases hz; exact ⟨kl, so1, it, ia, a4⟩
  have bs := b_slt NM H hm1 K1.2.1 lim hs1.1 hs1.2.1 hs1.2.2.1 hs1.2.2.2.1 (fun j hj => (hs1.2.2.2.2.2 j hj).2.1) ia (wi := none) (fun y hy => by cases hy)
  have bs' : f_M_slotOf (some 1) (Int32.ofNat s) (vl (y.1 + 1)) (-1) u1 = some (z_oc (z_slt nw srs (y.1 + 1) none), u1) := bs
  obtain ⟨u2, n1, n2, n3⟩ := b_nt a5 (m := 2) (p := pl (y.1 + 1)) (by decide) (by decide) (hpl _ (by omega))
  have iay := ia.1
  have p1 : g_AI u1 1172 (y.1 + 1) = Int32.ofNat (pl (y.1 + 1)) := (K1.2.1 (y.1 + 1) (by omega)).2.1
  -- before the conditions inside
  have st : ∃ v, f_M_resolveNotExists (some 1) (Int32.ofNat s) (Int32.ofNat c) u0 = f_M_resolveNotExists_53 200000 (some 1) (Int32.ofNat s) (Int32.ofNat c) (Int32.ofNat k) 0 v ∧ z_W [833, 897] [] u1 v ∧ M_nt v (z_nti2 (z_slt nw srs (y.1 + 1) none).isSome (z_nti2 (z_sbad x.1 ow (z_mng nw x.2.1 tc y.1)) a0 (pl y.1)) (pl (y.1 + 1))) := by
    have st0 : f_M_resolveNotExists (some 1) (Int32.ofNat s) (Int32.ofNat c) u0 = (if z_oc (z_slt nw srs (y.1 + 1) none) = (-1) then f_M_resolveNotExists_53 200000 (some 1) (Int32.ofNat s) (Int32.ofNat c) (Int32.ofNat k) 0 u1 else f_M_resolveNotExists_53 200000 (some 1) (Int32.ofNat s) (Int32.ofNat c) (Int32.ofNat k) 0 u2) := by
      unfold f_M_resolveNotExists
      rw [x_gR, (m_at hm m_k4161).1, x_aI (by omega) (by rw [(m_at hm m_k4161).2]; exact cl), hc4, x_nn, a1, x_c, x_gR, (m_at hm1 m_k769).1, x_gR, (m_at hm1 m_k3713).1, x_aI (by omega) (by rw [(m_at hm1 m_k3713).2]; exact kl), so1.2, z_tkv hm1 K1.2.1 H ia.1, x_nn, bs', x_c, x_gR, (m_at hm1 m_k705).1, x_gR, (m_at hm1 m_k3713).1, x_aI (by omega) (by rw [(m_at hm1 m_k3713).2]; exact kl), so1.2, x_aI (by omega) (by rw [(m_at hm1 m_k705).2]; omega), p1, x_nn, show (2 : Int32) = Int32.ofNat 2 from rfl, n1, x_c]
    cases hz : z_slt nw srs (y.1 + 1) none with
    | none =>
      rw [hz, if_pos (show z_oc none = -1 from rfl)] at st0
      exact ⟨u1, st0, z_W.re, a5⟩
    | some j =>
      have hj : j < 3 := by
        rcases z_slt_lt hz with w | ⟨-, w, hw⟩
        · have := hs.2.2.2.2.1; omega
        · cases hw
      rw [hz, if_neg (show ¬ z_oc (some j) = -1 from z_oc_n (by omega))] at st0
      exact ⟨u2, st0, n3, n2⟩
  obtain ⟨v0, s1, s2, s3⟩ := st
  have W0 : z_W [833, 897] z_wA3 u0 v0 := (a2.mono (fun _ h => h) (by decide)).trans (s2.mono (fun _ h => h) (fun _ h => by cases h))
  have e3220 : g_AI v0 3220 = g_AI u1 3220 := (s2.2.2.2.2.2.2.2.2 3220 (by decide)).1
  have W1 : z_W [833, 897] z_wA3 u1 v0 := s2.mono (fun _ h => h) (fun _ h => by cases h)
  have hs0 : M_ss n kd nw v0 C x.2.1 tc s k0 srs := hs1.A W1 (fun _ h => h) e3220
  have wi0 : M_wi n kd nw v0 x.2.1 tc (some (k, y.1)) := wi1.A W1 (fun _ h => h) e3220
  have K0 := K.W W0 (by decide) (by decide) (by decide) (by decide)
  have A0 : ∀ a, a ∉ z_wA3 → g_AI v0 a = g_AI u0 a := fun a ha => (W0.2.2.2.2.2.2.2.2 a ha).1
  obtain ⟨u', r1, ⟨r2, r2'⟩, r3, r4, r4', r5, r6⟩ := b_rlp (nw := nw) (n := n) (ps := x.2.1) (tc := tc) y.2 ([], 0, []) (z_wb kd) (fun f i u => f_M_resolveNotExists_53 f (some 1) (Int32.ofNat s) (Int32.ofNat c) (Int32.ofNat k) (Int32.ofNat i) u) (fun u => some ((), u)) (fun u => z_W [833, 897] z_wA3 v0 u ∧ g_AI u 3220 = g_AI v0 3220) (fun u j b => ∃ d, d < 120 ∧ g_AI u 3668 (3 * c + j) = Int32.ofNat d ∧ M_rcb nw u x.2.1 tc cols srs (some y.1) d b) (z_bnt (fun t => z_tbad false (z_tcl nw x.2.1 tc cols srs (some y.1) t)) pl) n
    (fun f u hI => by
      have hmu := hI.1.fx K0.1
      show f_M_resolveNotExists_53 (f + 1) _ _ _ _ _ u = _
      rw [f_M_resolveNotExists_53, x_gR, (m_at hmu m_k4225).1, x_aI (by omega) (by rw [(m_at hmu m_k4225).2]; exact cl), (hI.1.2.2.2.2.2.2.2.2 3604 (by decide)).1, A0 3604 (by decide), hc6, if_pos (by rw [x_le (by omega) (by omega)]; exact Nat.le_refl _)])
    (fun f i u a p1 q1 hi hI hnt hP hqn => by
      have hmu := hI.1.fx K0.1
      have Ku := K0.W hI.1 (by decide) (by decide) (by decide) (by decide)
      obtain ⟨d, d1, d2, d3⟩ := hc8 i hi
      have dl : d < 120 := by have := lim.2.2.2.2.2; omega
      obtain ⟨v, t1, t2, t3, t4, t5⟩ := b_rcb NM H hpl Ku hp hw3 (hs0.A hI.1 (fun _ h => h) hI.2) (wi0.A hI.1 (fun _ h => h) hI.2) dl ((d3.W W0 (fun _ h => h)).W hI.1 (fun _ h => h)) hP hqn hnt
      have tw : z_W [833, 897] z_wA3 u v := t2.mono (fun _ h => h) (by decide)
      refine ⟨v, ?_, ⟨hI.1.trans tw, by rw [(t2.2.2.2.2.2.2.2.2 3220 (by decide)).1]; exact hI.2⟩, tw, t3, M_mk.W t2 (by decide), ⟨d, dl, ?_, t4⟩, t5⟩
      · show f_M_resolveNotExists_53 (f + 1) _ _ _ _ _ u = _
        have t1' : f_M_resolveCondition (some 1) (Int32.ofNat s) (Int32.ofNat d) (Int32.ofNat k) u = some ((), v) := t1
        rw [f_M_resolveNotExists_53, x_gR, (m_at hmu m_k4225).1, x_aI (by omega) (by rw [(m_at hmu m_k4225).2]; exact cl), (hI.1.2.2.2.2.2.2.2.2 3604 (by decide)).1, A0 3604 (by decide), hc6, if_neg (by rw [x_le (by omega) (by omega)]; omega), x_gR, (m_at hmu m_k4289).1, show (3 : Int32) * Int32.ofNat c + Int32.ofNat i = Int32.ofNat (3 * c + i) from (by rw [Int32.ofNat_add, Int32.ofNat_mul]; rfl), x_aI (by omega) (by rw [(m_at hmu m_k4289).2]; omega), (hI.1.2.2.2.2.2.2.2.2 3668 (by decide)).1, A0 3668 (by decide), d2, x_nn, t1', x_c, x_p1]
      · rw [(t2.2.2.2.2.2.2.2.2 3668 (by decide)).1, (hI.1.2.2.2.2.2.2.2.2 3668 (by decide)).1, A0 3668 (by decide)]; exact d2)
    (fun u v i b p1 q1 p hR hIu hIv hw hk _ hP hqp => by
      obtain ⟨d, d0, d1, d2⟩ := hR
      exact ⟨d, d0, by rw [(hw.2.2.2.2.2.2.2.2 3668 (by decide)).1]; exact d1, d2.kt hw (fun _ h => h) hk (hP.mono (Nat.le_refl _) hqp)⟩)
    y.2 0 (y.1 + 2) q v0 _ 200000 rfl (Nat.zero_le _) (by omega) ⟨z_W.re, rfl⟩ s3 x4 hq (fun j hj => by omega)
  have kt0 : M_kt u0 v0 p := (M_kt.W a2 (by decide) : M_kt u0 u1 p).trans (M_kt.W s2 (by decide)) (Nat.le_refl _)
  have mk1 : M_mk nw n x.2.1 tc u0 u1 := ⟨⟨A1 _ (by decide), A1 _ (by decide)⟩, fun k' t' h1 h2 h3 => by
    by_cases w : k' = k
    · rw [w] at h2
      have := h2.tok hc5 (by omega) (by omega)
      rw [w, a4, this]
    · rw [a3 _ w]; exact h3⟩
  refine ⟨u', s1.trans r1, W0.trans r3, kt0.trans r4 (by omega), hs0.A r3 (fun _ h => h) r2', (mk1.trans (M_mk.W s2 (by decide))).trans r4', ⟨⟨k, ?_, wi0.A r3 (fun _ h => h) r2'⟩, r5⟩, r6⟩
  rw [(r3.2.2.2.2.2.2.2.2 3540 (by decide)).1, A0 _ (by decide)]; exact hc4
end
