/-! THE ENGINE'S CHECK: the lowest place of a fault -/
def E_lo (v : g_St) (S : Nat → Prop) : Prop := ∃ m, g_I v 195 3 = Int32.ofNat m ∧ m ≤ 401 ∧ (m < 401 → S m) ∧ ∀ p, S p → m ≤ p ∧ p ≤ 400
theorem E_lo.iff {v : g_St} {S T : Nat → Prop} (h : E_lo v S) (e : ∀ y, S y ↔ T y) : E_lo v T := by
  have : S = T := funext (fun y => propext (e y))
  rw [← this]; exact h
theorem k_nt {v : g_St} {S : Nat → Prop} (h : E_lo v S) (w : Bool) {z : Int32} {p : Nat} (hz : w = true → z = Int32.ofNat p ∧ p ≤ 400) : ∃ v', f_Ch_note (some 3) (z_g w) z v = some ((), v') ∧ E_fk [195] [] v v' ∧ E_lo v' (fun y => S y ∨ (w = true ∧ y = p)) := by
  unfold f_Ch_note
  cases w with
  | false =>
    rw [if_pos (show z_g false = 0 from rfl)]
    exact ⟨v, rfl, E_fk.re, h.iff (fun y => ⟨Or.inl, fun q => q.elim (fun q => q) (fun q => by cases q.1)⟩)⟩
  | true =>
    obtain ⟨e, hp⟩ := hz rfl
    obtain ⟨m, m1, m2, m3, m4⟩ := h
    rw [if_neg (show ¬ z_g true = 0 from by decide), x_gI, m1, e]
    by_cases le : m ≤ p
    · rw [if_pos (by rw [x_le (by omega) (by omega)]; exact le)]
      refine ⟨v, rfl, E_fk.re, m, m1, m2, fun q => Or.inl (m3 q), fun y hy => ?_⟩
      rcases hy with hy | hy
      · exact m4 y hy
      · rw [hy.2]; exact ⟨le, hp⟩
    · rw [if_neg (by rw [x_le (by omega) (by omega)]; exact le), x_pI]
      refine ⟨_, rfl, E_fk.re.pI (by decide) _ _, p, x_Iss _ _ _ _, by omega, fun _ => Or.inr ⟨rfl, rfl⟩, fun y hy => ?_⟩
      rcases hy with hy | hy
      · have := m4 y hy; omega
      · rw [hy.2]; exact ⟨Nat.le_refl _, hp⟩
theorem k_lk {β : Type} (N : Nat) (K : Nat → Nat → g_St → Option β) (E : g_St → Option β) (v : g_St) (T : Nat → Nat → Prop)
    (hE : ∀ f s, E_fk [195] [] v s → K (f + 1) N s = E s)
    (turn : ∀ f i s S, i < N → E_fk [195] [] v s → E_lo s S → ∃ s', K (f + 1) i s = K f (i + 1) s' ∧ E_fk [195] [] v s' ∧ E_lo s' (fun y => S y ∨ T i y))
    {s : g_St} {S : Nat → Prop} {f : Nat} (hf : N < f) (hs : E_fk [195] [] v s) (hS : E_lo s S) : ∃ s', K f 0 s = E s' ∧ E_fk [195] [] v s' ∧ E_lo s' (fun y => S y ∨ ∃ i, i < N ∧ T i y) := by
  refine z_cl N K E (fun i s => E_fk [195] [] v s ∧ E_lo s (fun y => S y ∨ ∃ j, j < i ∧ T j y)) (fun s' => E_fk [195] [] v s' ∧ E_lo s' (fun y => S y ∨ ∃ i, i < N ∧ T i y)) ?_ ?_ N 0 s f (by omega) hf ⟨hs, hS.iff (fun y => ⟨Or.inl, fun q => q.elim (fun q => q) (fun ⟨j, h, _⟩ => by omega)⟩)⟩
  · rintro f s ⟨h1, h2⟩
    exact ⟨s, hE f s h1, h1, h2⟩
  · rintro f i s hi ⟨h1, h2⟩
    obtain ⟨s', g1, g2, g3⟩ := turn f i s _ hi h1 h2
    refine ⟨s', g1, g2, g3.iff (fun y => ?_)⟩
    constructor
    · rintro ((q | ⟨j, q1, q2⟩) | q)
      · exact Or.inl q
      · exact Or.inr ⟨j, by omega, q2⟩
      · exact Or.inr ⟨i, by omega, q⟩
    · rintro (q | ⟨j, q1, q2⟩)
      · exact Or.inl (Or.inl q)
      · by_cases e : j = i
        · rw [e] at q2; exact Or.inr q2
        · exact Or.inl (Or.inr ⟨j, by omega, q2⟩)
section
variable {n q : Nat} {kd pl nw nv : Nat → Nat} {wd vl : Nat → Int64} {c : z_Cx} {A O : Nat} {b : Nat → Nat} {x : z_Qu} {tc : Nat} {cols : Nat → Nat} {xs ys : List Nat} {u0 : g_St}
/-- all that the checker has found out -/
def E_D (n : Nat) (kd pl nw : Nat → Nat) (wd : Nat → Int64) (c : z_Cx) (b : Nat → Nat) (x : z_Qu) (tc : Nat) (cols : Nat → Nat) (xs ys : List Nat) (u v : g_St) : Prop := E_V c tc u v ∧ E_ns n kd nw wd b x tc u v ∧ E_nc n kd pl nw wd b x tc cols ys u v ∧ E_cn nw b x x.2.1.length v ∧ E_nd b x.2.1.length v (z_rch nw x tc) ∧ E_np2 b x.2.1.length (z_rch nw x tc) x.2.1.length v ∧ E_oc c b nw x tc v ∧ E_cg pl nw wd b x tc u xs.length v
theorem E_D.fk {v w : g_St} (h : E_D n kd pl nw wd c b x tc cols xs ys u0 v) (f : E_fk [195, 394] [] v w) : E_D n kd pl nw wd c b x tc cols xs ys u0 w := by
  obtain ⟨h1, h2, h3, h4, h5, h6, h7, h8⟩ := h
  have I : ∀ k a, k ∉ [195, 394] → g_I w k a = g_I v k a := f.2.1
  have R : ∀ k a, g_R w k a = g_R v k a := fun k a => f.2.2 k a (by simp)
  refine ⟨⟨h1.1.trans (f.mono (by decide) (by decide)), by rw [R]; exact h1.2.1, by rw [R]; exact h1.2.2.1, by rw [I _ _ (by decide)]; exact h1.2.2.2⟩, h2.fk f (by decide) (by decide), ⟨fun a ha s wi top t T => ?_, fun a ha => ?_⟩, fun m hm => ?_, fun k hk => ?_, fun k hk => ?_, ⟨fun k hk => ?_, ?_⟩, fun s hs => ?_⟩
  · rw [R, I _ _ (by decide)]; exact h3.1 a ha s wi top t T
  · rw [R]; exact h3.2 a ha
  · rw [I _ _ (by decide), I _ _ (by decide)]; exact h4 m hm
  · rw [I _ _ (by decide)]; exact h5 k hk
  · rw [I _ _ (by decide), I _ _ (by decide)]; exact h6 k hk
  · rw [I _ _ (by decide)]; exact h7.1 k hk
  · rw [I _ _ (by decide)]; exact h7.2
  · obtain ⟨k, k1, k2⟩ := h8 s hs
    exact ⟨k, by rw [I _ _ (by decide)]; exact k1, k2⟩
theorem E_fk.w195 {v w : g_St} (f : E_fk [195] [] v w) : E_fk [195, 394] [] v w := f.mono (by decide) (by decide)
/-- the token of a part's word: its columns, MARK, TRAIL -/
def z_wt (X : z_Pa) (i : Nat) : Option Nat := if i < X.2.1.length then some (X.2.1.getD i 0) else if i = 3 then X.2.2.2.2.2.map (· + 2) else if i = 4 then X.2.2.2.2.1.map (fun y => y.2 + 5) else none
theorem z_wt_isn {X : z_Pa} (h : z_pnm n kd X) {i t : Nat} (e : z_wt X i = some t) : z_isn n kd t := by
  obtain ⟨h1, h2, h3, h4⟩ := h
  unfold z_wt at e
  by_cases c1 : i < X.2.1.length
  · rw [if_pos c1] at e; cases e; exact h2 i c1
  · rw [if_neg c1] at e
    by_cases c2 : i = 3
    · rw [if_pos c2] at e
      cases hx : X.2.2.2.2.2 with
      | none => rw [hx] at e; cases e
      | some y => rw [hx] at e; cases e; exact (h4 y hx).2
    · rw [if_neg c2] at e
      by_cases c3 : i = 4
      · rw [if_pos c3] at e
        cases hx : X.2.2.2.2.1 with
        | none => rw [hx] at e; cases e
        | some y => rw [hx] at e; cases e; exact (h3 y hx).2
      · rw [if_neg c3] at e; cases e
/-- the words and places of a part, reached -/
theorem k_pw (S : E_S pl wd c A O b x tc cols xs ys u0) {m : Nat} (hm : m < x.2.1.length) : ∃ W Q, g_R u0 199 ((b 7 + m) * 64 + 7) = some W ∧ g_R u0 263 ((b 7 + m) * 64 + 7) = some Q ∧ g_ln u0 W = 7 ∧ g_ln u0 Q = 7 ∧ (∀ i t, i < 5 → z_wt (x.2.1.getD m z_pa0) i = some t → g_AL u0 W i = wd t ∧ g_AI u0 Q i = Int32.ofNat (pl t)) ∧ (∀ i, i < 5 → z_wt (x.2.1.getD m z_pa0) i = none → g_AL u0 W i = 0) ∧ E_pS pl wd ((b 7 + m) * 64 + 7) W Q u0 (x.2.1.getD m z_pa0).2.2.2.2.1 ∧ E_pC pl wd ((b 7 + m) * 64 + 7) W Q u0 (x.2.1.getD m z_pa0).2.2.2.2.2 := by
  obtain ⟨⟨q1, q2, q3, q4⟩, qA, qp, qo, qe, qc, qr⟩ := S.1
  obtain ⟨-, P⟩ := qp m hm
  obtain ⟨p1, p2, p3, p4, aW, aQ, aL, p5, p6, p7, p8, p9, p10, p11, p12⟩ := P
  refine ⟨_, _, p6.1, p6.2.1, p7.1, p7.2.1, fun i t hi e => ?_, fun i hi e => ?_, p10, p11⟩
  · unfold z_wt at e
    by_cases c1 : i < (x.2.1.getD m z_pa0).2.1.length
    · rw [if_pos c1] at e; cases e; exact p8 i c1
    · rw [if_neg c1] at e
      by_cases c2 : i = 3
      · rw [if_pos c2] at e
        rw [c2]
        cases hx : (x.2.1.getD m z_pa0).2.2.2.2.2 with
        | none => rw [hx] at e; cases e
        | some y => rw [hx] at e p11; cases e; exact ⟨p11.2.2.2.1, p11.2.2.2.2⟩
      · rw [if_neg c2] at e
        by_cases c3 : i = 4
        · rw [if_pos c3] at e
          rw [c3]
          cases hx : (x.2.1.getD m z_pa0).2.2.2.2.1 with
          | none => rw [hx] at e; cases e
          | some y => rw [hx] at e p10; cases e; exact ⟨p10.2.2.2.2.1, p10.2.2.2.2.2⟩
        · rw [if_neg c3] at e; cases e
  · unfold z_wt at e
    by_cases c1 : i < (x.2.1.getD m z_pa0).2.1.length
    · rw [if_pos c1] at e; cases e
    · rw [if_neg c1] at e
      by_cases c2 : i = 3
      · rw [if_pos c2] at e
        rw [c2]
        cases hx : (x.2.1.getD m z_pa0).2.2.2.2.2 with
        | none => rw [hx] at p11; exact p11.2.1
        | some y => rw [hx] at e; cases e
      · rw [if_neg c2] at e
        by_cases c3 : i = 4
        · rw [c3]
          rw [if_pos c3] at e
          cases hx : (x.2.1.getD m z_pa0).2.2.2.2.1 with
          | none => rw [hx] at p10; exact p10.2.2.1
          | some y => rw [hx] at e; cases e
        · exact p9 i (by omega) (by omega)
/-- two words of a part are the same name -/
def z_wsm (nw pl : Nat → Nat) (X : z_Pa) (i j y : Nat) : Prop := ∃ t t', z_wt X i = some t ∧ z_wt X j = some t' ∧ nw t = nw t' ∧ y = max (pl t) (pl t')
theorem k_lp79 (NM : z_NM n kd wd vl nw nv) (H : z_H n kd) (hpl : ∀ i, i ≤ n → pl i ≤ 400) (S : E_S pl wd c A O b x tc cols xs ys u0) (k71 : Option Nat → Int32 → Option Nat → Int32 → g_St → Option (Unit × g_St)) {v : g_St} (D : E_D n kd pl nw wd c b x tc cols xs ys u0 v) {m : Nat} (hm : m < x.2.1.length) (hp : z_pnm n kd (x.2.1.getD m z_pa0)) (y1 : Int32) {i : Nat} (hi : i < 5) {s : g_St} {Z : Nat → Prop} (hs : E_fk [195] [] v s) (hS : E_lo s Z) : ∃ s', f_Ch_lookAtParts_79 k71 200000 (some 3) y1 (some ((b 7 + m) * 64 + 7)) (Int32.ofNat i) 0 s = k71 (some 3) y1 (some ((b 7 + m) * 64 + 7)) (Int32.ofNat (i + 1)) s' ∧ E_fk [195] [] v s' ∧ E_lo s' (fun y => Z y ∨ ∃ j, j < i ∧ z_wsm nw pl (x.2.1.getD m z_pa0) i j y) := by
  obtain ⟨W, Q, w1, w2, w3, w4, w5, w6, -, -⟩ := k_pw S hm
  refine k_lk i (fun f j s => f_Ch_lookAtParts_79 k71 f (some 3) y1 (some ((b 7 + m) * 64 + 7)) (Int32.ofNat i) (Int32.ofNat j) s) (fun s => k71 (some 3) y1 (some ((b 7 + m) * 64 + 7)) (Int32.ofNat (i + 1)) s) v (fun j y => z_wsm nw pl (x.2.1.getD m z_pa0) i j y) (fun f s hs => ?_) (fun f j s T hj hs hT => ?_) (by omega) hs hS
  · show f_Ch_lookAtParts_79 k71 (f + 1) _ _ _ _ (Int32.ofNat i) s = _
    rw [f_Ch_lookAtParts_79, if_pos (by rw [x_le (by omega) (by omega)]; exact Nat.le_refl _), x_p1]
  · have V := (D.fk hs.w195).1
    have fin : ∀ wr : Bool, (∀ y, (wr = true ∧ ∃ t t', z_wt (x.2.1.getD m z_pa0) i = some t ∧ z_wt (x.2.1.getD m z_pa0) j = some t' ∧ y = max (pl t) (pl t')) ↔ z_wsm nw pl (x.2.1.getD m z_pa0) i j y) → (wr = true → ∃ t t', z_wt (x.2.1.getD m z_pa0) i = some t ∧ z_wt (x.2.1.getD m z_pa0) j = some t') → ∃ s', f_Ch_lookAtParts_118 (f_Ch_lookAtParts_79 k71 f) (some 3) y1 (some ((b 7 + m) * 64 + 7)) (Int32.ofNat i) (Int32.ofNat j) (z_g wr) s = f_Ch_lookAtParts_79 k71 f (some 3) y1 (some ((b 7 + m) * 64 + 7)) (Int32.ofNat i) (Int32.ofNat (j + 1)) s' ∧ E_fk [195] [] v s' ∧ E_lo s' (fun y => T y ∨ z_wsm nw pl (x.2.1.getD m z_pa0) i j y) := by
      intro wr hw ht
      have hz : ∀ t t', z_wt (x.2.1.getD m z_pa0) i = some t → z_wt (x.2.1.getD m z_pa0) j = some t' → (if g_AI u0 Q i < g_AI u0 Q j then g_AI u0 Q j else g_AI u0 Q i) = Int32.ofNat (max (pl t) (pl t')) ∧ max (pl t) (pl t') ≤ 400 := by
        intro t t' e1 e2
        have i1 := (z_wt_isn hp e1).1
        have i2 := (z_wt_isn hp e2).1
        have p1 := hpl t (by omega)
        have p2 := hpl t' (by omega)
        rw [(w5 i t hi e1).2, (w5 j t' (by omega) e2).2]
        by_cases l : pl t < pl t'
        · rw [if_pos (by rw [x_lt (by omega) (by omega)]; exact l), Nat.max_eq_right (by omega)]; exact ⟨rfl, p2⟩
        · rw [if_neg (by rw [x_lt (by omega) (by omega)]; exact l), Nat.max_eq_left (by omega)]; exact ⟨rfl, p1⟩
      have key : ∀ p, (wr = true → (if g_AI u0 Q i < g_AI u0 Q j then g_AI u0 Q j else g_AI u0 Q i) = Int32.ofNat p ∧ p ≤ 400) → (∀ y, (wr = true ∧ y = p) ↔ z_wsm nw pl (x.2.1.getD m z_pa0) i j y) → ∃ s', f_Ch_lookAtParts_118 (f_Ch_lookAtParts_79 k71 f) (some 3) y1 (some ((b 7 + m) * 64 + 7)) (Int32.ofNat i) (Int32.ofNat j) (z_g wr) s = f_Ch_lookAtParts_79 k71 f (some 3) y1 (some ((b 7 + m) * 64 + 7)) (Int32.ofNat i) (Int32.ofNat (j + 1)) s' ∧ E_fk [195] [] v s' ∧ E_lo s' (fun y => T y ∨ z_wsm nw pl (x.2.1.getD m z_pa0) i j y) := by
        intro p hp1 hp2
        obtain ⟨s', g1, g2, g3⟩ := k_nt hT wr hp1
        refine ⟨s', ?_, hs.trans g2, g3.iff (fun y => by rw [hp2 y])⟩
        unfold f_Ch_lookAtParts_118
        rw [x_gR, V.R (by decide), w2, x_aI (by omega) (by rw [V.ln, w4]; omega), x_gR, V.R (by decide), w2, x_aI (by omega) (by rw [V.ln, w4]; omega), V.AI, x_nn, g1, x_c, x_p1]
      cases hwr : wr with
      | false =>
        rw [hwr] at key hw
        exact key 0 (fun e => by cases e) (fun y => ⟨fun e => (by cases e.1), fun e => by cases ((hw y).mpr e).1⟩)
      | true =>
        obtain ⟨t, t', e1, e2⟩ := ht hwr
        rw [hwr] at key hw
        refine key (max (pl t) (pl t')) (fun _ => hz t t' e1 e2) (fun y => ?_)
        rw [← hw y]
        constructor
        · rintro ⟨-, e⟩
          exact ⟨rfl, t, t', e1, e2, e⟩
        · rintro ⟨-, a, a', f1, f2, f3⟩
          rw [e1] at f1
          rw [e2] at f2
          cases f1
          cases f2
          exact ⟨rfl, f3⟩
    show ∃ s', f_Ch_lookAtParts_79 k71 (f + 1) (some 3) y1 (some ((b 7 + m) * 64 + 7)) (Int32.ofNat i) (Int32.ofNat j) s = f_Ch_lookAtParts_79 k71 f (some 3) y1 (some ((b 7 + m) * 64 + 7)) (Int32.ofNat i) (Int32.ofNat (j + 1)) s' ∧ _
    have st : f_Ch_lookAtParts_79 k71 (f + 1) (some 3) y1 (some ((b 7 + m) * 64 + 7)) (Int32.ofNat i) (Int32.ofNat j) s = if g_AL u0 W i = 0 then f_Ch_lookAtParts_118 (f_Ch_lookAtParts_79 k71 f) (some 3) y1 (some ((b 7 + m) * 64 + 7)) (Int32.ofNat i) (Int32.ofNat j) (z_g false) s else if g_AL u0 W i = g_AL u0 W j then f_Ch_lookAtParts_118 (f_Ch_lookAtParts_79 k71 f) (some 3) y1 (some ((b 7 + m) * 64 + 7)) (Int32.ofNat i) (Int32.ofNat j) (z_g true) s else f_Ch_lookAtParts_118 (f_Ch_lookAtParts_79 k71 f) (some 3) y1 (some ((b 7 + m) * 64 + 7)) (Int32.ofNat i) (Int32.ofNat j) (z_g false) s := by
      rw [f_Ch_lookAtParts_79, if_neg (by rw [x_le (by omega) (by omega)]; omega), x_gR, V.R (by decide), w1, x_aL (by omega) (by rw [V.ln, w3]; omega), V.AL]
      congr 1
      rw [x_gR, V.R (by decide), w1, x_aL (by omega) (by rw [V.ln, w3]; omega), x_gR, V.R (by decide), w1, x_aL (by omega) (by rw [V.ln, w3]; omega), V.AL]
      rfl
    rw [st]
    cases h1 : z_wt (x.2.1.getD m z_pa0) i with
    | none =>
      rw [if_pos (w6 i hi h1)]
      exact fin false (fun y => ⟨fun e => (by cases e.1), fun ⟨t, t', e1, _⟩ => by rw [h1] at e1; cases e1⟩) (fun e => by cases e)
    | some t =>
      have it := z_wt_isn hp h1
      rw [(w5 i t hi h1).1, if_neg (z_wd0 NM it)]
      cases h2 : z_wt (x.2.1.getD m z_pa0) j with
      | none =>
        rw [w6 j (by omega) h2, if_neg (z_wd0 NM it)]
        exact fin false (fun y => ⟨fun e => (by cases e.1), fun ⟨t, t', _, e1, _⟩ => by rw [h2] at e1; cases e1⟩) (fun e => by cases e)
      | some t' =>
        have it' := z_wt_isn hp h2
        rw [(w5 j t' (by omega) h2).1]
        by_cases e : nw t = nw t'
        · rw [if_pos (by rw [NM.eqE it it']; exact e)]
          refine fin true (fun y => ⟨fun ⟨_, a, a', f1, f2, f3⟩ => ⟨a, a', f1, f2, ?_, f3⟩, fun ⟨a, a', f1, f2, _, f3⟩ => ⟨rfl, a, a', f1, f2, f3⟩⟩) (fun _ => ⟨t, t', h1, h2⟩)
          rw [h1] at f1
          rw [h2] at f2
          cases f1
          cases f2
          exact e
        · rw [if_neg (by rw [NM.eqE it it']; exact e)]
          refine fin false (fun y => ⟨fun e => (by cases e.1), fun ⟨a, a', f1, f2, f3, _⟩ => ?_⟩) (fun e => by cases e)
          rw [h1] at f1
          rw [h2] at f2
          cases f1
          cases f2
          exact absurd f3 e
end
