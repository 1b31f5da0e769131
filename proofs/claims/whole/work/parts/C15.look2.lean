/-! THE ENGINE'S CHECK: faults 2 at parts -/
section
variable {n q : Nat} {kd pl nw nv : Nat → Nat} {wd vl : Nat → Int64} {c : z_Cx} {A O : Nat} {b : Nat → Nat} {x : z_Qu} {tc : Nat} {cols : Nat → Nat} {xs ys : List Nat} {u0 : g_St}
def z_pse (nw pl : Nat → Nat) (X : z_Pa) (y : Nat) : Prop := ∃ s, X.2.2.2.2.1 = some s ∧ z_own1 nw X (s.2 + 3) = none ∧ y = pl (s.2 + 3)
def z_pcy (nw pl : Nat → Nat) (X : z_Pa) (y : Nat) : Prop := ∃ s, X.2.2.2.2.2 = some s ∧ z_own1 nw X s = none ∧ y = pl s
theorem z_oc_nn {c : Option Nat} (h : ∀ i, c = some i → i < 2 ^ 31) : ((0 : Int32) ≤ z_oc c) ↔ (c.isSome = true) := by
  cases c with
  | none => exact ⟨fun h => absurd h (by decide), fun h => by cases h⟩
  | some i =>
    have := h i rfl
    exact ⟨fun _ => rfl, fun _ => by show (0 : Int32) ≤ Int32.ofNat i; rw [show (0 : Int32) = Int32.ofNat 0 from rfl, x_le (by omega) (by omega)]; omega⟩
theorem z_own1_lt {X : z_Pa} {t i : Nat} (h : z_own1 nw X t = some i) : i < X.2.1.length := by
  have := (z_ff_some h).2.1
  omega
theorem k_lpend (hpl : ∀ i, i ≤ n → pl i ≤ 400) (S : E_S pl wd c A O b x tc cols xs ys u0) (k2 : Option Nat → Int32 → g_St → Option (Unit × g_St)) {v : g_St} (D : E_D n kd pl nw wd c b x tc cols xs ys u0 v) {m : Nat} (hm : m < x.2.1.length) (hp : z_pnm n kd (x.2.1.getD m z_pa0)) {s : g_St} {Z : Nat → Prop} (hs : E_fk [195] [] v s) (hS : E_lo s Z) (f : Nat) : ∃ s', f_Ch_lookAtParts_71 k2 (f + 1) (some 3) (Int32.ofNat m) (some ((b 7 + m) * 64 + 7)) (Int32.ofNat 5) s = k2 (some 3) (Int32.ofNat (m + 1)) s' ∧ E_fk [195] [] v s' ∧ E_lo s' (fun y => (Z y ∨ z_pse nw pl (x.2.1.getD m z_pa0) y) ∨ z_pcy nw pl (x.2.1.getD m z_pa0) y) := by
  obtain ⟨W, Q, w1, w2, w3, w4, w5, w6, ps, pc⟩ := k_pw S hm
  have p3 := (S.1.2.2.1 m hm).2.2.2.2.1.1
  have Ds := D.fk hs.w195
  obtain ⟨g1, g2⟩ := Ds.2.2.2.1 m hm
  have V := Ds.1
  obtain ⟨h1, h2, h3, h4⟩ := hp
  -- behind CYCLE
  have e203 : ∀ (s4 : g_St) (T : Nat → Prop) (wr : Bool) (p : Nat), E_fk [195] [] v s4 → E_lo s4 T → (wr = true → g_AI u0 Q 6 = Int32.ofNat p ∧ p ≤ 400) → ∃ s', f_Ch_lookAtParts_203 k2 (some 3) (Int32.ofNat m) (some ((b 7 + m) * 64 + 7)) (some 3) (z_g wr) s4 = k2 (some 3) (Int32.ofNat (m + 1)) s' ∧ E_fk [195] [] v s' ∧ E_lo s' (fun y => T y ∨ (wr = true ∧ y = p)) := by
    intro s4 T wr p hs4 hT hw
    have V4 := (D.fk hs4.w195).1
    obtain ⟨s', a1, a2, a3⟩ := k_nt hT wr hw
    refine ⟨s', ?_, hs4.trans a2, a3⟩
    unfold f_Ch_lookAtParts_203
    rw [x_gR, V4.R (by decide), w2, show (6 : Int32) = Int32.ofNat 6 from rfl, x_aI (by omega) (by rw [V4.ln, w4]; omega), V4.AI, x_nn, a1, x_c, x_p1]
  have cyc : ∀ (s4 : g_St) (T : Nat → Prop), E_fk [195] [] v s4 → E_lo s4 T → ∃ s', (g_gI s4 455 (some ((b 7 + m) * 64 + 7)) fun i5 => if i5 = 0 then f_Ch_lookAtParts_203 k2 (some 3) (Int32.ofNat m) (some ((b 7 + m) * 64 + 7)) (some 3) 0 s4 else g_gI s4 1095 (some ((b 7 + m) * 64 + 7)) fun i6 => if 0 ≤ i6 then f_Ch_lookAtParts_203 k2 (some 3) (Int32.ofNat m) (some ((b 7 + m) * 64 + 7)) (some 3) 0 s4 else f_Ch_lookAtParts_203 k2 (some 3) (Int32.ofNat m) (some ((b 7 + m) * 64 + 7)) (some 3) 1 s4) = k2 (some 3) (Int32.ofNat (m + 1)) s' ∧ E_fk [195] [] v s' ∧ E_lo s' (fun y => T y ∨ z_pcy nw pl (x.2.1.getD m z_pa0) y) := by
    intro s4 T hs4 hT
    have D4 := D.fk hs4.w195
    have k2' := (D4.2.2.2.1 m hm).2
    rw [x_gI, D4.1.I (by decide), x_gI, k2']
    unfold z_cy
    cases hx : (x.2.1.getD m z_pa0).2.2.2.2.2 with
    | none =>
      rw [hx] at pc
      rw [pc.1, if_pos rfl]
      obtain ⟨s', a1, a2, a3⟩ := e203 s4 T false 0 hs4 hT (fun e => by cases e)
      exact ⟨s', a1, a2, a3.iff (fun y => ⟨fun q => q.elim Or.inl (fun q => by cases q.1), fun q => q.elim Or.inl (fun ⟨s, e, _⟩ => by rw [hx] at e; cases e)⟩)⟩
    | some y0 =>
      rw [hx] at pc
      rw [pc.1, if_neg (by decide)]
      simp only []
      have i1 := (h4 y0 hx).1.1
      obtain ⟨o, ho⟩ : ∃ o, z_own1 nw (x.2.1.getD m z_pa0) y0 = o := ⟨_, rfl⟩
      cases o with
      | some i =>
        rw [if_pos ((z_oc_nn (fun i e => by have := z_own1_lt e; omega)).mpr (by rw [ho]; rfl))]
        obtain ⟨s', a1, a2, a3⟩ := e203 s4 T false 0 hs4 hT (fun e => by cases e)
        exact ⟨s', a1, a2, a3.iff (fun y => ⟨fun q => q.elim Or.inl (fun q => by cases q.1), fun q => q.elim Or.inl (fun ⟨s, e, g, _⟩ => by rw [hx] at e; cases e; rw [ho] at g; cases g)⟩)⟩
      | none =>
        rw [if_neg (fun h => by rw [z_oc_nn (fun i e => by have := z_own1_lt e; omega), ho] at h; cases h)]
        obtain ⟨s', a1, a2, a3⟩ := e203 s4 T true (pl y0) hs4 hT (fun _ => ⟨pc.2.2.1, hpl y0 (by omega)⟩)
        exact ⟨s', a1, a2, a3.iff (fun y => ⟨fun q => q.elim Or.inl (fun q => Or.inr ⟨y0, hx, ho, q.2⟩), fun q => q.elim Or.inl (fun ⟨s, e, g, h⟩ => by rw [hx] at e; cases e; exact Or.inr ⟨rfl, h⟩)⟩)⟩
  have e174 : ∀ (wr : Bool) (p : Nat), (wr = true → g_AI u0 Q 5 = Int32.ofNat p ∧ p ≤ 400) → ∃ s', f_Ch_lookAtParts_174 k2 (some 3) (Int32.ofNat m) (some ((b 7 + m) * 64 + 7)) (some 3) (z_g wr) s = k2 (some 3) (Int32.ofNat (m + 1)) s' ∧ E_fk [195] [] v s' ∧ E_lo s' (fun y => (Z y ∨ (wr = true ∧ y = p)) ∨ z_pcy nw pl (x.2.1.getD m z_pa0) y) := by
    intro wr p hw
    obtain ⟨s4, a1, a2, a3⟩ := k_nt hS wr hw
    obtain ⟨s', b1, b2, b3⟩ := cyc s4 _ (hs.trans a2) a3
    refine ⟨s', ?_, b2, b3⟩
    unfold f_Ch_lookAtParts_174
    rw [x_gR, V.R (by decide), w2, show (5 : Int32) = Int32.ofNat 5 from rfl, x_aI (by omega) (by rw [V.ln, w4]; omega), V.AI, x_nn, a1, x_c]
    exact b1
  rw [f_Ch_lookAtParts_71, if_pos (by rw [show (4 : Int32) = Int32.ofNat 4 from rfl, x_lt (by omega) (by omega)]; omega), x_gI, V.I (by decide), x_gI, g1]
  unfold z_sc
  cases hx : (x.2.1.getD m z_pa0).2.2.2.2.1 with
  | none =>
    rw [hx] at ps
    rw [ps.1, if_pos rfl]
    obtain ⟨s', a1, a2, a3⟩ := e174 false 0 (fun e => by cases e)
    exact ⟨s', a1, a2, a3.iff (fun y => ⟨fun q => q.elim (fun q => q.elim (fun q => Or.inl (Or.inl q)) (fun q => by cases q.1)) Or.inr, fun q => q.elim (fun q => q.elim (fun q => Or.inl (Or.inl q)) (fun ⟨s, e, _⟩ => by rw [hx] at e; cases e)) Or.inr⟩)⟩
  | some y0 =>
    rw [hx] at ps
    rw [ps.1, if_neg (by decide)]
    simp only []
    have i1 := (h3 y0 hx).1.1
    obtain ⟨o, ho⟩ : ∃ o, z_own1 nw (x.2.1.getD m z_pa0) (y0.2 + 3) = o := ⟨_, rfl⟩
    cases o with
    | some i =>
      rw [if_pos ((z_oc_nn (fun i e => by have := z_own1_lt e; omega)).mpr (by rw [ho]; rfl))]
      obtain ⟨s', a1, a2, a3⟩ := e174 false 0 (fun e => by cases e)
      exact ⟨s', a1, a2, a3.iff (fun y => ⟨fun q => q.elim (fun q => q.elim (fun q => Or.inl (Or.inl q)) (fun q => by cases q.1)) Or.inr, fun q => q.elim (fun q => q.elim (fun q => Or.inl (Or.inl q)) (fun ⟨s, e, g, _⟩ => by rw [hx] at e; cases e; rw [ho] at g; cases g)) Or.inr⟩)⟩
    | none =>
      rw [if_neg (fun h => by rw [z_oc_nn (fun i e => by have := z_own1_lt e; omega), ho] at h; cases h)]
      obtain ⟨s', a1, a2, a3⟩ := e174 true (pl (y0.2 + 3)) (fun _ => ⟨ps.2.2.2.1, hpl _ (by omega)⟩)
      exact ⟨s', a1, a2, a3.iff (fun y => ⟨fun q => q.elim (fun q => q.elim (fun q => Or.inl (Or.inl q)) (fun q => Or.inl (Or.inr ⟨y0, hx, ho, q.2⟩))) Or.inr, fun q => q.elim (fun q => q.elim (fun q => Or.inl (Or.inl q)) (fun ⟨s, e, g, h⟩ => by rw [hx] at e; cases e; exact Or.inl (Or.inr ⟨rfl, h⟩))) Or.inr⟩)⟩
/-- faults 2 told at a part -/
def z_pf2 (nw pl : Nat → Nat) (ps : List z_Pa) (m y : Nat) : Prop := (∃ k, k < m ∧ nw (ps.getD k z_pa0).1 = nw (ps.getD m z_pa0).1 ∧ y = pl (ps.getD m z_pa0).1) ∨ (∃ i, i < 5 ∧ ∃ j, j < i ∧ z_wsm nw pl (ps.getD m z_pa0) i j y) ∨ z_pse nw pl (ps.getD m z_pa0) y ∨ z_pcy nw pl (ps.getD m z_pa0) y
theorem k_lp (NM : z_NM n kd wd vl nw nv) (H : z_H n kd) (hpl : ∀ i, i ≤ n → pl i ≤ 400) (S : E_S pl wd c A O b x tc cols xs ys u0) (W : z_wqu kd q x) (hq : q ≤ n) {v : g_St} (D : E_D n kd pl nw wd c b x tc cols xs ys u0 v) {s : g_St} {Z : Nat → Prop} (hs : E_fk [195] [] v s) (hS : E_lo s Z) : ∃ s', f_Ch_lookAtParts (some 3) s = some ((), s') ∧ E_fk [195] [] v s' ∧ E_lo s' (fun y => Z y ∨ ∃ m, m < x.2.1.length ∧ z_pf2 nw pl x.2.1 m y) := by
  have hpp := z_wqu_ps W hq
  obtain ⟨⟨q1, q2, q3, q4⟩, qA, qp, qo, qe, qc, qr⟩ := S.1
  unfold f_Ch_lookAtParts
  refine k_lk x.2.1.length (fun f m s => f_Ch_lookAtParts_2 f (some 3) (Int32.ofNat m) s) (fun s => some ((), s)) v (fun m y => z_pf2 nw pl x.2.1 m y) (fun f s hs => ?_) (fun f m s T hm hs hT => ?_) (by omega) hs hS
  · show f_Ch_lookAtParts_2 (f + 1) (some 3) (Int32.ofNat x.2.1.length) s = _
    rw [f_Ch_lookAtParts_2, (D.fk hs.w195).1.count S, if_pos (by rw [x_le (by omega) (by omega)]; exact Nat.le_refl _)]
  · have hp := hpp m hm
    have pm := hpl (x.2.1.getD m z_pa0).1 (by have := hp.1.1; omega)
    -- names
    obtain ⟨s1, a1, a2, a3⟩ := k_lk m (fun g k s => f_Ch_lookAtParts_25 (f_Ch_lookAtParts_2 f) g (some 3) (Int32.ofNat m) (some ((b 7 + m) * 64 + 7)) (Int32.ofNat k) s) (fun s => f_Ch_lookAtParts_71 (f_Ch_lookAtParts_2 f) 200000 (some 3) (Int32.ofNat m) (some ((b 7 + m) * 64 + 7)) 0 s) v (fun k y => nw (x.2.1.getD k z_pa0).1 = nw (x.2.1.getD m z_pa0).1 ∧ y = pl (x.2.1.getD m z_pa0).1) (fun g s hs => by
        show f_Ch_lookAtParts_25 _ (g + 1) _ _ _ (Int32.ofNat m) s = _
        rw [f_Ch_lookAtParts_25, if_pos (by rw [x_le (by omega) (by omega)]; exact Nat.le_refl _)])
      (fun g k s T hk hs hT => by
        have V := (D.fk hs.w195).1
        have e56 : ∀ wr : Bool, (∀ y, (wr = true ∧ y = pl (x.2.1.getD m z_pa0).1) ↔ (nw (x.2.1.getD k z_pa0).1 = nw (x.2.1.getD m z_pa0).1 ∧ y = pl (x.2.1.getD m z_pa0).1)) → ∃ s', f_Ch_lookAtParts_56 (f_Ch_lookAtParts_25 (f_Ch_lookAtParts_2 f) g) (some 3) (Int32.ofNat m) (some ((b 7 + m) * 64 + 7)) (Int32.ofNat k) (some 3) (z_g wr) s = f_Ch_lookAtParts_25 (f_Ch_lookAtParts_2 f) g (some 3) (Int32.ofNat m) (some ((b 7 + m) * 64 + 7)) (Int32.ofNat (k + 1)) s' ∧ E_fk [195] [] v s' ∧ E_lo s' (fun y => T y ∨ (nw (x.2.1.getD k z_pa0).1 = nw (x.2.1.getD m z_pa0).1 ∧ y = pl (x.2.1.getD m z_pa0).1)) := by
          intro wr hw
          obtain ⟨s', c1, c2, c3⟩ := k_nt hT wr (z := Int32.ofNat (pl (x.2.1.getD m z_pa0).1)) (p := pl (x.2.1.getD m z_pa0).1) (fun _ => ⟨rfl, pm⟩)
          refine ⟨s', ?_, hs.trans c2, c3.iff (fun y => by rw [hw y])⟩
          unfold f_Ch_lookAtParts_56
          rw [x_gI, V.I (by decide), (qp m hm).2.2.1.2.1, x_nn, c1, x_c, x_p1]
        show ∃ s', f_Ch_lookAtParts_25 _ (g + 1) _ _ _ (Int32.ofNat k) s = _ ∧ _
        rw [f_Ch_lookAtParts_25, if_neg (by rw [x_le (by omega) (by omega)]; omega), V.part S (show k < x.2.1.length by omega), x_gL, V.L, (qp k (by omega)).2.2.1.1, x_gL, V.L, (qp m hm).2.2.1.1]
        by_cases e : nw (x.2.1.getD k z_pa0).1 = nw (x.2.1.getD m z_pa0).1
        · rw [if_pos (by rw [NM.eqE (hpp k (by omega)).1 hp.1]; exact e)]
          exact e56 true (fun y => ⟨fun h => ⟨e, h.2⟩, fun h => ⟨rfl, h.2⟩⟩)
        · rw [if_neg (by rw [NM.eqE (hpp k (by omega)).1 hp.1]; exact e)]
          exact e56 false (fun y => ⟨fun h => (by cases h.1), fun h => absurd h.1 e⟩))
      (f := 200000) (by omega) hs hT
    -- words
    obtain ⟨s2, b1, b2, b3⟩ := k_lk 5 (fun g i s => f_Ch_lookAtParts_71 (f_Ch_lookAtParts_2 f) g (some 3) (Int32.ofNat m) (some ((b 7 + m) * 64 + 7)) (Int32.ofNat i) s) (fun s => f_Ch_lookAtParts_71 (f_Ch_lookAtParts_2 f) 1 (some 3) (Int32.ofNat m) (some ((b 7 + m) * 64 + 7)) (Int32.ofNat 5) s) v (fun i y => ∃ j, j < i ∧ z_wsm nw pl (x.2.1.getD m z_pa0) i j y) (fun g s hs => by
        show f_Ch_lookAtParts_71 _ (g + 1) _ _ _ (Int32.ofNat 5) s = _
        rw [f_Ch_lookAtParts_71, f_Ch_lookAtParts_71, if_pos (by decide), if_pos (by decide)])
      (fun g i s T hi hs hT => by
        obtain ⟨s', c1, c2, c3⟩ := k_lp79 NM H hpl S (f_Ch_lookAtParts_71 (f_Ch_lookAtParts_2 f) g) D hm hp (Int32.ofNat m) hi hs hT
        refine ⟨s', ?_, c2, c3⟩
        show f_Ch_lookAtParts_71 _ (g + 1) _ _ _ (Int32.ofNat i) s = _
        rw [f_Ch_lookAtParts_71, if_neg (by rw [show (4 : Int32) = Int32.ofNat 4 from rfl, x_lt (by omega) (by omega)]; omega)]
        exact c1)
      (f := 200000) (by omega) a2 a3
    obtain ⟨s3, d1, d2, d3⟩ := k_lpend hpl S (f_Ch_lookAtParts_2 f) D hm hp b2 b3 0
    refine ⟨s3, ?_, d2, d3.iff (fun y => ?_)⟩
    · show f_Ch_lookAtParts_2 (f + 1) (some 3) (Int32.ofNat m) s = f_Ch_lookAtParts_2 f (some 3) (Int32.ofNat (m + 1)) s3
      rw [f_Ch_lookAtParts_2, (D.fk hs.w195).1.count S, if_neg (by rw [x_le (by omega) (by omega)]; omega), (D.fk hs.w195).1.part S hm]
      exact a1.trans (b1.trans d1)
    · unfold z_pf2
      constructor
      · rintro ((((h | h) | h) | h) | h)
        · exact Or.inl h
        · exact Or.inr (Or.inl h)
        · exact Or.inr (Or.inr (Or.inl h))
        · exact Or.inr (Or.inr (Or.inr (Or.inl h)))
        · exact Or.inr (Or.inr (Or.inr (Or.inr h)))
      · rintro (h | h | h | h | h)
        · exact Or.inl (Or.inl (Or.inl (Or.inl h)))
        · exact Or.inl (Or.inl (Or.inl (Or.inr h)))
        · exact Or.inl (Or.inl (Or.inr h))
        · exact Or.inl (Or.inr h)
        · exact Or.inr h
end
