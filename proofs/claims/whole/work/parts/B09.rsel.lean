/-! THE CHECK: a selection is resolved (reference) -/
def z_dup (nw : Nat → Nat) (srs : List Nat) (t : Nat) : Bool := match z_slt nw srs (t + 1) none with
  | some j => decide (srs.getD j 0 ≠ t)
  | none => true
def z_son (nw pl : Nat → Nat) (x : z_Qu) (tc ow : Nat) (srs : List Nat) (a : Option (Nat × Nat)) (t : Nat) : Option (Nat × Nat) := z_nti2 (z_dup nw srs t) (z_nti2 (z_sbad x.1 ow (z_mng nw x.2.1 tc t)) a (pl t)) (pl (t + 1))
def z_bd0 (nw : Nat → Nat) (x : z_Qu) (tc : Nat) (cols : Nat → Nat) (srs : List Nat) (t : Nat) : Bool := z_tbad false (z_tcl nw x.2.1 tc cols srs none t)
def z_con2 (nw pl : Nat → Nat) (x : z_Qu) (tc : Nat) (cols : Nat → Nat) (ow : Nat) (srs : List Nat) (a : Option (Nat × Nat)) (c : z_Co) : Option (Nat × Nat) := match c with
  | .inl b => z_bnt (z_bd0 nw x tc cols srs) pl a b
  | .inr y => z_nnt nw pl x tc cols srs ow a y
def z_snt (nw pl : Nat → Nat) (x : z_Qu) (tc : Nat) (cols : Nat → Nat) (ow : Nat) (a : Option (Nat × Nat)) (y : z_Se) : Option (Nat × Nat) := y.2.2.2.foldl (z_con2 nw pl x tc cols ow y.2.2.1) (y.2.1.foldl (fun a i => z_xnt (z_bd0 nw x tc cols y.2.2.1) pl a i.2) (y.2.2.1.foldl (z_son nw pl x tc ow y.2.2.1) a))
def M_rit (nw : Nat → Nat) (u : g_St) (ps : List z_Pa) (tc : Nat) (cols : Nat → Nat) (srs : List Nat) (i : Nat) (x : z_It) : Prop := x.1 = 20 ∨ ∃ e, e < 210 ∧ g_AI u 2580 i = Int32.ofNat e ∧ M_rex nw u ps tc cols srs none e x.2
def M_rco (n : Nat) (kd : Nat → Nat) (nw : Nat → Nat) (u : g_St) (ps : List z_Pa) (tc : Nat) (cols : Nat → Nat) (srs : List Nat) (i : Nat) (x : z_Co) : Prop := ∃ c, c < 120 ∧ g_AI u 2452 i = Int32.ofNat c ∧ match x with
  | .inl b => M_rcb nw u ps tc cols srs none c b
  | .inr y => M_rne n kd nw u ps tc cols srs c y
def M_rse (n : Nat) (kd : Nat → Nat) (nw : Nat → Nat) (u : g_St) (C : Nat → Nat) (ps : List z_Pa) (tc : Nat) (cols : Nat → Nat) (s : Nat) (y : z_Se) : Prop := (∃ k0, M_ss n kd nw u C ps tc s k0 y.2.2.1) ∧ (∃ i0, i0 + y.2.1.length ≤ 68 ∧ g_AI u 2132 s = Int32.ofNat i0 ∧ ∀ j, j < y.2.1.length → M_rit nw u ps tc cols y.2.2.1 (i0 + j) (y.2.1.getD j z_it0)) ∧ ∀ j, j < y.2.2.2.length → M_rco n kd nw u ps tc cols y.2.2.1 (6 * s + j) (y.2.2.2.getD j z_co0)
theorem z_wso_inc {kd : Nat → Nat} : ∀ {l : List Nat} {p q : Nat}, z_ch (z_wso kd) l p q → ∀ i j, i < j → j < l.length → l.getD i 0 < l.getD j 0 := by
  intro l
  induction l with
  | nil => intro p q _ i j _ h; cases h
  | cons x l ih =>
    intro p q h i j h1 h2
    obtain ⟨p1, q1, a1, a2, ⟨a3, a4, -⟩, a5⟩ := h
    rw [List.length_cons] at h2
    cases j with
    | zero => omega
    | succ j =>
      have hj : (x :: l).getD (j + 1) 0 = l.getD j 0 := rfl
      rw [hj]
      cases i with
      | zero =>
        show x < l.getD j 0
        obtain ⟨p2, q2, b1, b2, b3⟩ := a5.all _ (z_getD_m (d := 0) (show j < l.length by omega))
        rw [b3.1]
        omega
      | succ i =>
        show l.getD i 0 < l.getD j 0
        exact ih a5 i j (by omega) (by omega)
section
variable {n : Nat} {kd pl nw nv : Nat → Nat} {wd vl : Nat → Int64}
theorem M_mk.so {u v : g_St} {ps : List z_Pa} {tc k t : Nat} (hn : n ≤ 400) (w : z_W [833, 897] [3220] u v) (h1 : ∀ j, j ≠ k → g_AI v 3220 j = g_AI u 3220 j) (h2 : g_AI v 3220 k = z_mc (z_mng nw ps tc t)) (h3 : M_so u k t) (ht : t < n) : M_mk nw n ps tc u v := by
  have A : ∀ a, a ∉ [3220] → g_AI v a = g_AI u a := fun a ha => (w.2.2.2.2.2.2.2.2 a ha).1
  refine ⟨⟨A _ (by decide), A _ (by decide)⟩, fun k' t' g1 g2 g3 => ?_⟩
  by_cases y : k' = k
  · rw [y] at g2
    have := g2.tok h3 (by omega) (by omega)
    rw [y, h2, this]
  · rw [h1 _ y]; exact g3
theorem M_ss.mk {wI : List Nat} {u v : g_St} {C : Nat → Nat} {ps : List z_Pa} {tc s k0 : Nat} {srs : List Nat} (h : M_ss n kd nw u C ps tc s k0 srs) (w : z_W wI z_wA3 u v) (m : M_mk nw n ps tc u v) : M_ss n kd nw v C ps tc s k0 srs := by
  have A : ∀ a, a ∉ z_wA3 → g_AI v a = g_AI u a := fun a ha => (w.2.2.2.2.2.2.2.2 a ha).1
  obtain ⟨z1, z2, z3, ⟨z4, z5⟩, z6, z7⟩ := h
  exact ⟨z1, by rw [A _ (by decide)]; exact z2, by rw [A _ (by decide)]; exact z3, ⟨z4, fun j hj => ⟨by rw [A _ (by decide)]; exact (z5 j hj).1, by rw [A _ (by decide)]; exact (z5 j hj).2⟩⟩, z6, fun j hj => ⟨(z7 j hj).1, (z7 j hj).2.1, m.2 _ _ (z7 j hj).1.1 (z5 j hj) (z7 j hj).2.2⟩⟩
theorem M_wi.mk {wI : List Nat} {u v : g_St} {ps : List z_Pa} {tc : Nat} {wi : Option (Nat × Nat)} (h : M_wi n kd nw u ps tc wi) (w : z_W wI z_wA3 u v) (m : M_mk nw n ps tc u v) : M_wi n kd nw v ps tc wi := by
  have A : ∀ a, a ∉ z_wA3 → g_AI v a = g_AI u a := fun a ha => (w.2.2.2.2.2.2.2.2 a ha).1
  intro y hy
  obtain ⟨a1, ⟨a2, a3⟩, a4, a5, a6⟩ := h y hy
  exact ⟨a1, ⟨by rw [A _ (by decide)]; exact a2, by rw [A _ (by decide)]; exact a3⟩, a4, a5, m.2 _ _ a4.1 ⟨a2, a3⟩ a6⟩
theorem M_rne.kt {wI : List Nat} {u v : g_St} {ps : List z_Pa} {tc : Nat} {cols : Nat → Nat} {srs : List Nat} {c : Nat} {y : Nat × List z_Bs} (h : M_rne n kd nw u ps tc cols srs c y) (w : z_W wI z_wA3 u v) {p0 q1 p : Nat} (k : M_kt u v p) (m : M_mk nw n ps tc u v) (hx : z_wco kd p0 q1 (.inr y)) (hq : q1 ≤ p) : M_rne n kd nw v ps tc cols srs c y := by
  have A : ∀ a, a ∉ z_wA3 → g_AI v a = g_AI u a := fun a ha => (w.2.2.2.2.2.2.2.2 a ha).1
  obtain ⟨⟨kk, a1, a2⟩, a3⟩ := h
  refine ⟨⟨kk, by rw [A _ (by decide)]; exact a1, a2.mk w m⟩, fun j hj => ?_⟩
  obtain ⟨d, b0, b1, b2⟩ := a3 j hj
  obtain ⟨p2, q2, c1, c2, c3⟩ := hx.2.2.2.all _ (z_getD_m (d := ([], 0, [])) hj)
  exact ⟨d, b0, by rw [A _ (by decide)]; exact b1, b2.kt w (fun _ h => h) k (c3.mono (Nat.le_refl _) (by omega))⟩
theorem b_rsl (NM : z_NM n kd wd vl nw nv) (H : z_H n kd) (hpl : ∀ i, i ≤ n → pl i ≤ 400) {u0 : g_St} {C : Nat → Nat} {x : z_Qu} {tc : Nat} {cols : Nat → Nat} (K : M_ck n kd pl vl u0 C x tc cols) (hp : ∀ k, k < x.2.1.length → z_pnm n kd (x.2.1.getD k z_pa0)) (hw3 : ∀ k, (x.2.1.getD k z_pa0).2.1.length ≤ 3) {s ow : Nat} (how4 : ow ≤ 4) {y : z_Se} (hS : M_se pl u0 C s ow y) {p q : Nat} (hx : z_wse kd p q y) (hq : q ≤ n) {a0 : Option (Nat × Nat)} (ha : M_nt u0 a0) :
    ∃ u', f_M_resolveSelection (some 1) (Int32.ofNat s) u0 = some ((), u') ∧ z_W [833, 897] z_wA3 u0 u' ∧ M_kt u0 u' p ∧ M_mk nw n x.2.1 tc u0 u' ∧ M_rse n kd nw u' C x.2.1 tc cols s y ∧ M_nt u' (z_snt nw pl x tc cols ow a0 y) := by
  have hm := K.1
  have hn := H.2.1
  have lim : z_lim C := K.2.2.1.2.2.2.2.2.2.2.2.2.2
  obtain ⟨hS1, hS2, hS3, ⟨i0, hS4, hS5⟩, hS6, hS7, ⟨k0, hS8, hS9⟩, hS10, hS11, hS12, hS13, hS14, hS15⟩ := hS
  obtain ⟨-, a, b, x1, x2, x3⟩ := hx
  have l1 := x1.le
  have l2 := x2.le
  have l3 := x3.le
  have sl : s < 17 := by have := lim.1; omega
  have kl : k0 + y.2.2.1.length ≤ 95 := by have := lim.2.2.2.2.1; have := hS9.1; omega
  have tok : ∀ i, i < y.2.2.1.length → z_isn n kd (y.2.2.1.getD i 0) ∧ z_isn n kd (y.2.2.1.getD i 0 + 1) := fun i hi => by
    obtain ⟨p2, q2, b1, b2, b3, b4, b5, b6⟩ := x2.all _ (z_getD_m (d := 0) hi)
    exact ⟨⟨by omega, b5⟩, by omega, b6⟩
  have Au : ∀ {u : g_St}, z_W [833, 897] z_wA3 u0 u → ∀ a, a ∉ z_wA3 → g_AI u a = g_AI u0 a := fun w a ha => (w.2.2.2.2.2.2.2.2 a ha).1
  have sou : ∀ {u : g_St}, z_W [833, 897] z_wA3 u0 u → M_sos u C k0 y.2.2.1 := fun w => ⟨hS9.1, fun j hj => ⟨by rw [Au w _ (by decide)]; exact (hS9.2 j hj).1, by rw [Au w _ (by decide)]; exact (hS9.2 j hj).2⟩⟩
  -- sources
  obtain ⟨u1, r1, r2, r3, r4, r5, r6, r7⟩ := b_rlp (nw := nw) (n := n) (ps := x.2.1) (tc := tc) y.2.2.1 0 (z_wso kd) (fun f i u => f_M_resolveSelection_2 f (some 1) (Int32.ofNat s) (Int32.ofNat i) u) (f_M_resolveSelection_72 200000 (some 1) (Int32.ofNat s) 0) (fun u => z_W [833, 897] z_wA3 u0 u) (fun u j t => j < y.2.2.1.length ∧ t = y.2.2.1.getD j 0 ∧ g_AI u 3220 (k0 + j) = z_mc (z_mng nw x.2.1 tc t)) (z_son nw pl x tc ow y.2.2.1) n
    (fun f u hI => by
      have hmu := hI.fx hm
      show f_M_resolveSelection_2 (f + 1) _ _ _ u = _
      rw [f_M_resolveSelection_2, x_gR, (m_at hmu m_k2561).1, x_aI (by omega) (by rw [(m_at hmu m_k2561).2]; exact sl), Au hI 2324 (by decide), hS10, if_pos (by rw [x_le (by omega) (by omega)]; exact Nat.le_refl _)])
    (fun f i u a1 p1 q1 hi hI hnt hP hqn => by
      have hmu := hI.fx hm
      have Ku := K.W hI (by decide) (by decide) (by decide) (by decide)
      obtain ⟨it, ia⟩ := tok i hi
      have so := (sou hI).2 i hi
      obtain ⟨v, a2, a3, a4, a5, a6⟩ := b_rso NM H hpl Ku (fun k hk => (hp k hk).1) sl (show k0 + i < 100 by omega) so it (by rw [Au hI 2004 (by decide)]; exact hS2) how4 hnt
      have a3' : z_W [833, 897] z_wA3 u v := a3.mono (fun _ h => h) (by decide)
      have Kv := Ku.W a3 (by decide) (by decide) (by decide) (by decide)
      have hmv := Kv.1
      have hIv := hI.trans a3'
      have sov := (sou hIv).2 i hi
      have bs := b_slt NM H hmv Kv.2.1 lim sl (by rw [Au hIv 2324 (by decide)]; exact hS10) (by rw [Au hIv 2260 (by decide)]; exact hS8) (sou hIv) (fun j hj => (tok j hj).2) ia (wi := none) (fun y hy => by cases hy)
      have bs' : f_M_slotOf (some 1) (Int32.ofNat s) (vl (y.2.2.1.getD i 0 + 1)) (-1) v = some (z_oc (z_slt nw y.2.2.1 (y.2.2.1.getD i 0 + 1) none), v) := bs
      obtain ⟨v2, n1, n2, n3⟩ := b_nt a6 (m := 2) (p := pl (y.2.2.1.getD i 0 + 1)) (by decide) (by decide) (hpl _ (by have := ia.1; omega))
      -- the first with this byname
      have hsl : ∃ j, z_slt nw y.2.2.1 (y.2.2.1.getD i 0 + 1) none = some j ∧ j ≤ i := by
        unfold z_slt
        cases hz : z_ff (fun k => decide (nw (y.2.2.1.getD k 0 + 1) = nw (y.2.2.1.getD i 0 + 1))) y.2.2.1.length 0 with
        | none =>
          have := z_ff_none hz i (Nat.zero_le _) (by omega)
          rw [decide_eq_true rfl] at this
          cases this
        | some j =>
          obtain ⟨c1, c2, c3, c4⟩ := z_ff_some hz
          refine ⟨j, rfl, ?_⟩
          by_cases w : j ≤ i
          · exact w
          · have := c4 i (Nat.zero_le _) (by omega)
            rw [decide_eq_true rfl] at this
            cases this
      obtain ⟨j, hj, hji⟩ := hsl
      have hdup : z_dup nw y.2.2.1 (y.2.2.1.getD i 0) = decide (j < i) := by
        unfold z_dup
        rw [hj]
        show decide (y.2.2.1.getD j 0 ≠ y.2.2.1.getD i 0) = decide (j < i)
        by_cases w : j < i
        · have := z_wso_inc x2 j i w hi
          rw [decide_eq_true w, decide_eq_true (by omega)]
        · have e : j = i := by omega
          rw [decide_eq_false w, e, decide_eq_false (fun h => h rfl)]
      have iay := ia.1
      have st : f_M_resolveSelection_2 (f + 1) (some 1) (Int32.ofNat s) (Int32.ofNat i) u = (if Int32.ofNat i ≤ Int32.ofNat j then f_M_resolveSelection_2 f (some 1) (Int32.ofNat s) (Int32.ofNat (i + 1)) v else f_M_resolveSelection_2 f (some 1) (Int32.ofNat s) (Int32.ofNat (i + 1)) v2) := by
        rw [f_M_resolveSelection_2, x_gR, (m_at hmu m_k2561).1, x_aI (by omega) (by rw [(m_at hmu m_k2561).2]; exact sl), Au hI 2324 (by decide), hS10, if_neg (by rw [x_le (by omega) (by omega)]; omega), x_gR, (m_at hmu m_k2497).1, x_aI (by omega) (by rw [(m_at hmu m_k2497).2]; exact sl), Au hI 2260 (by decide), hS8, x_add, x_nn, a2, x_c, x_gR, (m_at hmv m_k769).1, x_gR, (m_at hmv m_k3713).1, x_aI (by omega) (by rw [(m_at hmv m_k3713).2]; omega), sov.2, z_tkv hmv Kv.2.1 H ia.1, x_nn, bs', hj, x_c, show z_oc (some j) = Int32.ofNat j from rfl, x_gR, (m_at hmv m_k705).1, x_gR, (m_at hmv m_k3713).1, x_aI (by omega) (by rw [(m_at hmv m_k3713).2]; omega), sov.2, x_aI (by omega) (by rw [(m_at hmv m_k705).2]; omega), (Kv.2.1 _ (by omega)).2.1, x_nn, show (2 : Int32) = Int32.ofNat 2 from rfl, n1, x_c, x_p1]
      have c1 : (Int32.ofNat i ≤ Int32.ofNat j) = (i ≤ j) := x_le (by omega) (by omega)
      have mkv : M_mk nw n x.2.1 tc u v := M_mk.so hn a3 a4 a5 so it.1
      by_cases w : j < i
      · rw [if_neg (by rw [c1]; omega)] at st
        have n3' : z_W [833, 897] z_wA3 v v2 := n3.mono (fun _ h => h) (fun _ h => by cases h)
        refine ⟨v2, st, hIv.trans n3', a3'.trans n3', (M_kt.W a3 (by decide) : M_kt u v p1).trans (M_kt.W n3 (by decide)) (Nat.le_refl _), mkv.trans (M_mk.W n3 (by decide)), ⟨hi, rfl, by rw [(n3.2.2.2.2.2.2.2.2 3220 (by decide)).1]; exact a5⟩, ?_⟩
        unfold z_son
        rw [hdup, decide_eq_true w]
        exact n2
      · rw [if_pos (by rw [c1]; omega)] at st
        refine ⟨v, st, hIv, a3', M_kt.W a3 (by decide), mkv, ⟨hi, rfl, a5⟩, ?_⟩
        unfold z_son
        rw [hdup, decide_eq_false w]
        exact a6)
    (fun u v j t p1 q1 pp hR hIu hIv hw hk hmk hP hqp => by
      obtain ⟨c1, c2, c3⟩ := hR
      refine ⟨c1, c2, hmk.2 (k0 + j) t (by rw [c2]; exact (tok j c1).1.1) ?_ c3⟩
      rw [c2]
      exact (sou hIu).2 j c1)
    y.2.2.1 0 a b u0 a0 200000 rfl (Nat.zero_le _) (by omega) z_W.re ha x2 (by omega) (fun j hj => by omega)
  have ss1 : M_ss n kd nw u1 C x.2.1 tc s k0 y.2.2.1 := ⟨sl, by rw [Au r2 2324 (by decide)]; exact hS10, by rw [Au r2 2260 (by decide)]; exact hS8, sou r2, hS14, fun j hj => ⟨(tok j hj).1, (tok j hj).2, (r6 j hj).2.2⟩⟩
  have K1 := K.W r2 (by decide) (by decide) (by decide) (by decide)
  have il : i0 + y.2.1.length ≤ 68 := by have := lim.2.1; have := hS5.1; omega
  -- items
  obtain ⟨u2, i1, ⟨i2, i2'⟩, i3, i4, i5, i6, i7⟩ := b_rlp (nw := nw) (n := n) (ps := x.2.1) (tc := tc) y.2.1 z_it0 (z_wit kd) (fun f i u => f_M_resolveSelection_72 f (some 1) (Int32.ofNat s) (Int32.ofNat i) u) (f_M_resolveSelection_116 200000 (some 1) (Int32.ofNat s) 0) (fun u => z_W [833, 897] z_wA3 u0 u ∧ M_ss n kd nw u C x.2.1 tc s k0 y.2.2.1) (fun u j t => M_rit nw u x.2.1 tc cols y.2.2.1 (i0 + j) t) (fun a i => z_xnt (z_bd0 nw x tc cols y.2.2.1) pl a i.2) n
    (fun f u hI => by
      have hmu := hI.1.fx hm
      show f_M_resolveSelection_72 (f + 1) _ _ _ u = _
      rw [f_M_resolveSelection_72, x_gR, (m_at hmu m_k2433).1, x_aI (by omega) (by rw [(m_at hmu m_k2433).2]; exact sl), Au hI.1 2196 (by decide), hS6, if_pos (by rw [x_le (by omega) (by omega)]; exact Nat.le_refl _)])
    (fun f i u a1 p1 q1 hi hI hnt hP hqn => by
      have hmu := hI.1.fx hm
      have Ku := K.W hI.1 (by decide) (by decide) (by decide) (by decide)
      have hit := hS5.2 i hi
      have st0 : ∀ v, g_AI u0 2580 (i0 + i) = v → f_M_resolveSelection_72 (f + 1) (some 1) (Int32.ofNat s) (Int32.ofNat i) u = (if v = -1 then f_M_resolveSelection_72 f (some 1) (Int32.ofNat s) (Int32.ofNat (i + 1)) u else g_c (g_nn (some 1) (f_M_resolveExpression (some 1) (Int32.ofNat s) v (-1) u)) fun _ s8 => f_M_resolveSelection_72 f (some 1) (Int32.ofNat s) (Int32.ofNat (i + 1)) s8) := fun v hv => by
        rw [f_M_resolveSelection_72, x_gR, (m_at hmu m_k2433).1, x_aI (by omega) (by rw [(m_at hmu m_k2433).2]; exact sl), Au hI.1 2196 (by decide), hS6, if_neg (by rw [x_le (by omega) (by omega)]; omega), x_gR, (m_at hmu m_k2945).1, x_gR, (m_at hmu m_k2369).1, x_aI (by omega) (by rw [(m_at hmu m_k2369).2]; exact sl), Au hI.1 2132 (by decide), hS4, x_add, x_aI (by omega) (by rw [(m_at hmu m_k2945).2]; omega), Au hI.1 2580 (by decide), hv, x_p1]
      have expr : ∀ e, g_AI u0 2580 (i0 + i) = Int32.ofNat e → e < C 3009 → M_ex u0 (C 3073) e (y.2.1.getD i z_it0).2 → ∃ v, f_M_resolveSelection_72 (f + 1) (some 1) (Int32.ofNat s) (Int32.ofNat i) u = f_M_resolveSelection_72 f (some 1) (Int32.ofNat s) (Int32.ofNat (i + 1)) v ∧ (z_W [833, 897] z_wA3 u0 v ∧ M_ss n kd nw v C x.2.1 tc s k0 y.2.2.1) ∧ z_W [833, 897] z_wA3 u v ∧ M_kt u v p1 ∧ M_mk nw n x.2.1 tc u v ∧ M_rit nw v x.2.1 tc cols y.2.2.1 (i0 + i) (y.2.1.getD i z_it0) ∧ M_nt v (z_xnt (z_bd0 nw x tc cols y.2.2.1) pl a1 (y.2.1.getD i z_it0).2) := by
        intro e e1 e2 e3
        obtain ⟨v, t1, t2, t3, t4, -, t6⟩ := b_rxk NM H hpl Ku hp hw3 hI.2 (wi := none) (fun y hy => by cases hy) (by have := lim.2.2.2.1; omega) (by have := lim.2.2.1; omega) (e3.W hI.1 (fun _ h => h)) hP.1 hqn hnt
        have t2' : z_W [833, 897] z_wA3 u v := t2.mono (fun _ h => h) (by decide)
        have t1' : f_M_resolveExpression (some 1) (Int32.ofNat s) (Int32.ofNat e) (-1) u = some ((), v) := t1
        have := lim.2.2.1
        refine ⟨v, ?_, ⟨hI.1.trans t2', hI.2.W t2 (by decide)⟩, t2', t3, M_mk.W t2 (by decide), Or.inr ⟨e, by omega, by rw [(t2'.2.2.2.2.2.2.2.2 2580 (by decide)).1, Au hI.1 2580 (by decide)]; exact e1, t4⟩, t6⟩
        rw [st0 _ e1, if_neg (z_oc_n (by omega)), x_nn, t1', x_c]
      rcases hit with ⟨c1, c2, e, c3, c4, c5⟩ | ⟨c1, c2, c3⟩ | ⟨c1, c1', c2, e, c3, c4, c5⟩
      · exact expr e c4 c3 c5
      · have e0 : (y.2.1.getD i z_it0).2 = [] := by
          rcases hP.2 with z | z | z
          · have : (y.2.1.getD i z_it0).1 = 20 := c1
            omega
          · exact z.2
          · have : (y.2.1.getD i z_it0).1 = 20 := c1
            omega
        refine ⟨u, by rw [st0 _ c3, if_pos rfl], hI, z_W.re, M_kt.re, M_mk.re, Or.inl c1, ?_⟩
        rw [e0]
        exact hnt
      · exact expr e c4 c3 c5)
    (fun u v j t p1 q1 pp hR hIu hIv hw hk hmk hP hqp => by
      rcases hR with c1 | ⟨e, c0, c1, c2⟩
      · exact Or.inl c1
      · exact Or.inr ⟨e, c0, by rw [(hw.2.2.2.2.2.2.2.2 2580 (by decide)).1]; exact c1, c2.kt hw (fun _ h => h) hk (hP.1.mono (Nat.le_refl _) hqp)⟩)
    y.2.1 0 p a u1 _ 200000 rfl (Nat.zero_le _) (by omega) ⟨r2, ss1⟩ r7 x1 (by omega) (fun j hj => by omega)
  -- conditions
  obtain ⟨u3, c1, ⟨c2, c2'⟩, c3, c4, c5, c6, c7⟩ := b_rlp (nw := nw) (n := n) (ps := x.2.1) (tc := tc) y.2.2.2 z_co0 (z_wco kd) (fun f i u => f_M_resolveSelection_116 f (some 1) (Int32.ofNat s) (Int32.ofNat i) u) (fun u => some ((), u)) (fun u => z_W [833, 897] z_wA3 u0 u ∧ M_ss n kd nw u C x.2.1 tc s k0 y.2.2.1) (fun u j t => M_rco n kd nw u x.2.1 tc cols y.2.2.1 (6 * s + j) t) (z_con2 nw pl x tc cols ow y.2.2.1) n
    (fun f u hI => by
      have hmu := hI.1.fx hm
      show f_M_resolveSelection_116 (f + 1) _ _ _ u = _
      rw [f_M_resolveSelection_116, x_gR, (m_at hmu m_k2625).1, x_aI (by omega) (by rw [(m_at hmu m_k2625).2]; exact sl), Au hI.1 2388 (by decide), hS11, if_pos (by rw [x_le (by omega) (by omega)]; exact Nat.le_refl _)])
    (fun f i u a1 p1 q1 hi hI hnt hP hqn => by
      have hmu := hI.1.fx hm
      have Ku := K.W hI.1 (by decide) (by decide) (by decide) (by decide)
      obtain ⟨cc, d1, d2⟩ := hS12 i hi
      have d2' : M_co u0 C cc (y.2.2.2.getD i z_co0) := by
        have : y.2.2.2.getD i (.inr (0, [])) = y.2.2.2.getD i z_co0 := by
          rw [List.getD_eq_getElem?_getD, List.getD_eq_getElem?_getD, List.getElem?_eq_getElem hi]; rfl
        rw [← this]; exact d2
      have cl : cc < 120 := by have := lim.2.2.2.2.2; have := d2'.1; omega
      have st0 : f_M_resolveSelection_116 (f + 1) (some 1) (Int32.ofNat s) (Int32.ofNat i) u = (if g_AI u0 3284 cc = 2 then g_c (g_nn (some 1) (f_M_resolveNotExists (some 1) (Int32.ofNat s) (Int32.ofNat cc) u)) (fun _ s10 => f_M_resolveSelection_116 f (some 1) (Int32.ofNat s) (Int32.ofNat (i + 1)) s10) else g_c (g_nn (some 1) (f_M_resolveCondition (some 1) (Int32.ofNat s) (Int32.ofNat cc) (-1) u)) fun _ s8 => f_M_resolveSelection_116 f (some 1) (Int32.ofNat s) (Int32.ofNat (i + 1)) s8) := by
        rw [f_M_resolveSelection_116, x_gR, (m_at hmu m_k2625).1, x_aI (by omega) (by rw [(m_at hmu m_k2625).2]; exact sl), Au hI.1 2388 (by decide), hS11, if_neg (by rw [x_le (by omega) (by omega)]; omega), x_gR, (m_at hmu m_k2689).1, show (6 : Int32) * Int32.ofNat s + Int32.ofNat i = Int32.ofNat (6 * s + i) from (by rw [Int32.ofNat_add, Int32.ofNat_mul]; rfl), x_aI (by omega) (by rw [(m_at hmu m_k2689).2]; omega), Au hI.1 2452 (by decide), d1, x_gR, (m_at hmu m_k3905).1, x_aI (by omega) (by rw [(m_at hmu m_k3905).2]; exact cl), Au hI.1 3284 (by decide), x_p1]
      revert d2' hP
      cases hz : y.2.2.2.getD i z_co0 with
      | inl bb =>
        intro hP d2'
        obtain ⟨-, d3⟩ := d2'
        have k3 : ¬ g_AI u0 3284 cc = 2 := by
          rcases d3.2 with z | z
          · rw [z.2]; decide
          · rw [z.2.1]; decide
        obtain ⟨v, t1, t2, t3, t4, t5⟩ := b_rcb NM H hpl Ku hp hw3 hI.2 (wi := none) (fun y hy => by cases hy) cl (d3.W hI.1 (fun _ h => h)) hP hqn hnt
        have t2' : z_W [833, 897] z_wA3 u v := t2.mono (fun _ h => h) (by decide)
        have t1' : f_M_resolveCondition (some 1) (Int32.ofNat s) (Int32.ofNat cc) (-1) u = some ((), v) := t1
        refine ⟨v, ?_, ⟨hI.1.trans t2', hI.2.W t2 (by decide)⟩, t2', t3, M_mk.W t2 (by decide), ⟨cc, cl, by rw [(t2'.2.2.2.2.2.2.2.2 2452 (by decide)).1, Au hI.1 2452 (by decide)]; exact d1, t4⟩, t5⟩
        show f_M_resolveSelection_116 (f + 1) _ _ _ u = _
        rw [st0, if_neg k3, x_nn, t1', x_c]
      | inr yy =>
        intro hP d2'
        have cow : M_co u C cc (.inr yy) := by
          obtain ⟨z1, z2, ⟨k, z3, z4, z5⟩, z6, z7, z8⟩ := d2'
          refine ⟨z1, by rw [Au hI.1 _ (by decide)]; exact z2, ⟨k, z3, by rw [Au hI.1 _ (by decide)]; exact z4, ⟨by rw [Au hI.1 _ (by decide)]; exact z5.1, by rw [Au hI.1 _ (by decide)]; exact z5.2⟩⟩, by rw [Au hI.1 _ (by decide)]; exact z6, z7, fun j hj => ?_⟩
          obtain ⟨d, w1, w2, w3⟩ := z8 j hj
          exact ⟨d, w1, by rw [Au hI.1 _ (by decide)]; exact w2, w3.W hI.1 (fun _ h => h)⟩
        obtain ⟨v, t1, t2, t3, t4, t5, t6, t7⟩ := b_rne NM H hpl Ku hp hw3 hI.2 (by rw [Au hI.1 2004 (by decide)]; exact hS2) how4 cow hP hqn hnt
        refine ⟨v, ?_, ⟨hI.1.trans t2, t4⟩, t2, t3, t5, ⟨cc, cl, by rw [(t2.2.2.2.2.2.2.2.2 2452 (by decide)).1, Au hI.1 2452 (by decide)]; exact d1, t6⟩, t7⟩
        show f_M_resolveSelection_116 (f + 1) _ _ _ u = _
        rw [st0, if_pos d2'.2.1, x_nn, t1, x_c])
    (fun u v j t p1 q1 pp hR hIu hIv hw hk hmk hP hqp => by
      obtain ⟨cc, d0, d1, d2⟩ := hR
      refine ⟨cc, d0, by rw [(hw.2.2.2.2.2.2.2.2 2452 (by decide)).1]; exact d1, ?_⟩
      cases t with
      | inl bb => exact M_rcb.kt d2 hw (fun _ h => h) hk (z_wb.mono hP (Nat.le_refl _) hqp)
      | inr yy => exact M_rne.kt d2 hw hk hmk hP hqp)
    y.2.2.2 0 b q u2 _ 200000 rfl (Nat.zero_le _) (by omega) ⟨i2, i2'⟩ i7 x3 hq (fun j hj => by omega)
  refine ⟨u3, ?_, c2, ?_, (r5.trans i5).trans c5, ⟨⟨k0, c2'⟩, ⟨i0, il, by rw [Au c2 2132 (by decide)]; exact hS4, fun j hj => ?_⟩, c6⟩, c7⟩
  · unfold f_M_resolveSelection
    exact r1.trans (i1.trans c1)
  · have kr : M_kt u0 u1 p := ⟨r4.1, fun i t h1 h2 => r4.2 i t (by omega) h2⟩
    exact (kr.trans i4 (Nat.le_refl _)).trans c4 (by omega)
  · obtain ⟨p2, q2, g1, g2, g3⟩ := x1.all _ (z_getD_m (d := z_it0) hj)
    rcases i6 j hj with w | ⟨e, w0, w1, w2⟩
    · exact Or.inl w
    · exact Or.inr ⟨e, w0, by rw [(c3.2.2.2.2.2.2.2.2 2580 (by decide)).1]; exact w1, w2.kt c3 (fun _ h => h) c4 (g3.1.mono (Nat.le_refl _) (by omega))⟩
end
