/-! THE ENGINE'S CHECK: all faults, in their order -/
def z_f3 (pl : Nat → Nat) (X : z_Pa) (y : Nat) : Prop := ∃ j, j < X.2.2.1.length ∧ (X.2.2.1.getD j z_se0).2.1.length ≠ X.2.1.length ∧ y = pl (X.2.2.1.getD j z_se0).1
/-- the faults of a number, their places -/
def z_fl (nw pl : Nat → Nat) (x : z_Qu) (tc : Nat) (cols : Nat → Nat) (num y : Nat) : Prop := (num = 2 ∧ ((∃ m, m < x.2.1.length ∧ z_pf2 nw pl x.2.1 m y) ∨ (∃ s sl t, s < (z_sels x).length ∧ q_so (z_sv x s).2 sl t ∧ z_sf2 nw pl x tc s sl t y) ∨ (∃ o s wi t, q_tl x o s wi t ∧ z_tbad o (z_tcl nw x.2.1 tc cols (z_sv x s).2.2.2.1 wi t) = true ∧ y = pl t) ∨ ∃ o, x.2.2.2 = some o ∧ 0 < z_gc x.2.2.1.2.1 ∧ y = pl o.1)) ∨ (num = 5 ∧ ∃ s sl t, s < (z_sels x).length ∧ q_so (z_sv x s).2 sl t ∧ (sl = none ∨ 0 < z_gc (z_sv x s).2.2.1) ∧ z_nown nw x tc (z_sv x s).1 t = true ∧ y = pl t) ∨ (num = 3 ∧ ∃ m, m < x.2.1.length ∧ z_f3 pl (x.2.1.getD m z_pa0) y) ∨ ∃ m, m < x.2.1.length ∧ z_wr nw x tc m num ∧ y = pl (x.2.1.getD m z_pa0).1
section
variable {n q : Nat} {kd pl nw nv : Nat → Nat} {wd vl : Nat → Int64} {c : z_Cx} {A O : Nat} {b : Nat → Nat} {x : z_Qu} {tc : Nat} {cols : Nat → Nat} {xs ys : List Nat} {u0 : g_St}
theorem k_lw (hpl : ∀ i, i ≤ n → pl i ≤ 400) (S : E_S pl wd c A O b x tc cols xs ys u0) (W : z_wqu kd q x) (hq : q ≤ n) {v : g_St} (D : E_D n kd pl nw wd c b x tc cols xs ys u0 v) {m : Nat} (hm : m < x.2.1.length) {s : g_St} {Z : Nat → Prop} (hs : E_fk [195] [] v s) (hS : E_lo s Z) : ∃ s', f_Ch_lookAtWidths (some 3) (some ((b 7 + m) * 64 + 7)) s = some ((), s') ∧ E_fk [195] [] v s' ∧ E_lo s' (fun y => Z y ∨ z_f3 pl (x.2.1.getD m z_pa0) y) := by
  obtain ⟨-, P⟩ := S.1.2.2.1 m hm
  obtain ⟨p1, p2, p3, p4, P⟩ := P
  unfold f_Ch_lookAtWidths
  refine k_lk (x.2.1.getD m z_pa0).2.2.1.length (fun f j s => f_Ch_lookAtWidths_2 f (some 3) (some ((b 7 + m) * 64 + 7)) (Int32.ofNat j) s) (fun s => some ((), s)) v (fun j y => ((x.2.1.getD m z_pa0).2.2.1.getD j z_se0).2.1.length ≠ (x.2.1.getD m z_pa0).2.1.length ∧ y = pl ((x.2.1.getD m z_pa0).2.2.1.getD j z_se0).1) (fun f s hs => ?_) (fun f j s T hj hs hT => ?_) (by omega) hs hS
  · show f_Ch_lookAtWidths_2 (f + 1) _ _ (Int32.ofNat (x.2.1.getD m z_pa0).2.2.1.length) s = _
    rw [f_Ch_lookAtWidths_2, x_gI, (D.fk hs.w195).1.I (by decide), p2.2.2.2.1, if_pos (by rw [x_le (by omega) (by omega)]; exact Nat.le_refl _)]
  · have V := (D.fk hs.w195).1
    obtain ⟨g, e⟩ := k_selp S.1 hm (m2 := j) hj
    obtain ⟨p, r, hr, hw⟩ := z_sv_w W hq g.1
    have g3 := g.2.2
    rw [e] at g3 hw
    have i72 : g_I s 72 ((b 8 + (z_tot (x.2.1.take m) + j)) * 64 + 8) = Int32.ofNat (pl ((x.2.1.getD m z_pa0).2.2.1.getD j z_se0).1) := by rw [V.I (by decide)]; exact g3.2.2.1
    have i264 : g_I s 264 ((b 8 + (z_tot (x.2.1.take m) + j)) * 64 + 8) = Int32.ofNat ((x.2.1.getD m z_pa0).2.2.1.getD j z_se0).2.1.length := by rw [V.I (by decide)]; exact g3.2.2.2.2.1.1
    have l4 : ((x.2.1.getD m z_pa0).2.2.1.getD j z_se0).2.1.length ≤ 4 := g3.2.2.2.2.2.1.1
    have pt : pl ((x.2.1.getD m z_pa0).2.2.1.getD j z_se0).1 ≤ 400 := hpl _ (by
      obtain ⟨w1, a, b', w2, w3, w4⟩ := hw
      have := w2.le
      have := w3.le
      have := w4.le
      have w1' : ((x.2.1.getD m z_pa0).2.2.1.getD j z_se0).1 = p := w1
      omega)
    have fin : ∀ wr : Bool, (wr = true ↔ ((x.2.1.getD m z_pa0).2.2.1.getD j z_se0).2.1.length ≠ (x.2.1.getD m z_pa0).2.1.length) → ∃ s', f_Ch_lookAtWidths_32 (f_Ch_lookAtWidths_2 f) (some 3) (some ((b 7 + m) * 64 + 7)) (Int32.ofNat j) (some 3) (z_g wr) s = f_Ch_lookAtWidths_2 f (some 3) (some ((b 7 + m) * 64 + 7)) (Int32.ofNat (j + 1)) s' ∧ E_fk [195] [] v s' ∧ E_lo s' (fun y => T y ∨ (((x.2.1.getD m z_pa0).2.2.1.getD j z_se0).2.1.length ≠ (x.2.1.getD m z_pa0).2.1.length ∧ y = pl ((x.2.1.getD m z_pa0).2.2.1.getD j z_se0).1)) := by
      intro wr hw
      obtain ⟨s', c1, c2, c3⟩ := k_nt hT wr (z := Int32.ofNat (pl ((x.2.1.getD m z_pa0).2.2.1.getD j z_se0).1)) (p := pl ((x.2.1.getD m z_pa0).2.2.1.getD j z_se0).1) (fun _ => ⟨rfl, pt⟩)
      refine ⟨s', ?_, hs.trans c2, c3.iff (fun y => by rw [hw])⟩
      unfold f_Ch_lookAtWidths_32
      rw [k_ps S hm hj V, x_gI, i72, x_nn, c1, x_c, x_p1]
    show ∃ s', f_Ch_lookAtWidths_2 (f + 1) _ _ (Int32.ofNat j) s = _ ∧ _
    rw [f_Ch_lookAtWidths_2, x_gI, V.I (by decide), p2.2.2.2.1, if_neg (by rw [x_le (by omega) (by omega)]; omega), k_ps S hm hj V, x_gI, i264, x_gI, V.I (by decide), p2.2.2.1]
    by_cases w : ((x.2.1.getD m z_pa0).2.2.1.getD j z_se0).2.1.length = (x.2.1.getD m z_pa0).2.1.length
    · rw [if_pos (by rw [w])]
      exact fin false ⟨fun h => (by cases h), fun h => absurd w h⟩
    · rw [if_neg (by rw [x_eq (by omega) (by omega)]; exact w)]
      exact fin true ⟨fun _ => w, fun _ => rfl⟩
theorem z_wqu_1s (W : z_wqu kd q x) {m : Nat} (hm : m < x.2.1.length) : 1 ≤ (x.2.1.getD m z_pa0).2.2.1.length := by
  obtain ⟨a, b, h1, h2, h3, h4, h5⟩ := W
  obtain ⟨p1, q1, g1, g2, g3⟩ := h1.all _ (z_getD_m (d := z_pa0) hm)
  obtain ⟨w1, w2, a', b', d', c1, c2, c3, c4, c5, c6⟩ := g3
  omega
theorem k_l69 (NM : z_NM n kd wd vl nw nv) (hpl : ∀ i, i ≤ n → pl i ≤ 400) (S : E_S pl wd c A O b x tc cols xs ys u0) (W : z_wqu kd q x) (hq : q ≤ n) {v : g_St} (D : E_D n kd pl nw wd c b x tc cols xs ys u0 v) {num : Nat} (hn : num = 3 ∨ num = 4 ∨ num = 6 ∨ num = 7 ∨ num = 8) {s : g_St} (hs : E_fk [195] [] v s) (hS : E_lo s (fun _ => False)) : ∃ s', f_Ch_look_69 200000 (some 3) (Int32.ofNat num) 0 s = some ((), s') ∧ E_fk [195] [] v s' ∧ E_lo s' (z_fl nw pl x tc cols num) := by
  have q3 := S.1.1.2.2.1
  have hpp := z_wqu_ps W hq
  obtain ⟨s', m1, m2, m3⟩ := k_lk x.2.1.length (fun f m s => f_Ch_look_69 f (some 3) (Int32.ofNat num) (Int32.ofNat m) s) (fun s => some ((), s)) v (fun m y => (num = 3 ∧ z_f3 pl (x.2.1.getD m z_pa0) y) ∨ (num ≠ 3 ∧ z_wr nw x tc m num ∧ y = pl (x.2.1.getD m z_pa0).1)) (fun f s hs => by
      show f_Ch_look_69 (f + 1) (some 3) _ (Int32.ofNat x.2.1.length) s = _
      rw [f_Ch_look_69, (D.fk hs.w195).1.count S, if_pos (by rw [x_le (by omega) (by omega)]; exact Nat.le_refl _)])
    (fun f m s T hm hs hT => by
      have Ds := D.fk hs.w195
      have V := Ds.1
      have pm := hpl (x.2.1.getD m z_pa0).1 (by have := (hpp m hm).1.1; omega)
      show ∃ s', f_Ch_look_69 (f + 1) (some 3) _ (Int32.ofNat m) s = _ ∧ _
      rw [f_Ch_look_69, V.count S, if_neg (by rw [x_le (by omega) (by omega)]; omega), V.part S hm]
      by_cases w : num = 3
      · obtain ⟨s', c1, c2, c3⟩ := k_lw hpl S W hq D hm hs hT
        rw [if_pos (by rw [w]; rfl), x_nn, c1, x_c, x_p1]
        refine ⟨s', rfl, c2, c3.iff (fun y => ?_)⟩
        constructor
        · rintro (h | h)
          · exact Or.inl h
          · exact Or.inr (Or.inl ⟨w, h⟩)
        · rintro (h | ⟨-, h⟩ | ⟨h, -⟩)
          · exact Or.inl h
          · exact Or.inr h
          · exact absurd w h
      · have ne : ¬ Int32.ofNat num = 3 := by rw [show (3 : Int32) = Int32.ofNat 3 from rfl, x_eq (by omega) (by omega)]; exact w
        obtain ⟨wr, d1, d2⟩ := k_wr NM S W hq Ds hm (z_wqu_1s W hm) (num := num) (by omega)
        obtain ⟨s', c1, c2, c3⟩ := k_nt hT wr (z := Int32.ofNat (pl (x.2.1.getD m z_pa0).1)) (p := pl (x.2.1.getD m z_pa0).1) (fun _ => ⟨rfl, pm⟩)
        rw [if_neg ne, x_nn, d1, x_c, x_gI, V.I (by decide), (S.1.2.2.1 m hm).2.2.1.2.1, x_nn, c1, x_c, x_p1]
        refine ⟨s', rfl, hs.trans c2, c3.iff (fun y => ?_)⟩
        rw [d2]
        constructor
        · rintro (h | ⟨h1, h2⟩)
          · exact Or.inl h
          · exact Or.inr (Or.inr ⟨w, h1, h2⟩)
        · rintro (h | ⟨h, -⟩ | ⟨-, h⟩)
          · exact Or.inl h
          · exact absurd h w
          · exact Or.inr h)
    (f := 200000) (by omega) hs hS
  refine ⟨s', m1, m2, m3.iff (fun y => ?_)⟩
  unfold z_fl
  constructor
  · rintro (h | ⟨m, h1, h2 | h2⟩)
    · exact h.elim
    · exact Or.inr (Or.inr (Or.inl ⟨h2.1, m, h1, h2.2⟩))
    · exact Or.inr (Or.inr (Or.inr ⟨m, h1, h2.2⟩))
  · rintro (⟨h, -⟩ | ⟨h, -⟩ | ⟨h, m, h1, h2⟩ | ⟨m, h1, h2⟩)
    · omega
    · omega
    · exact Or.inr ⟨m, h1, Or.inl ⟨h, h2⟩⟩
    · refine Or.inr ⟨m, h1, Or.inr ⟨fun e => ?_, h2⟩⟩
      have := h2.1
      unfold z_wr at this
      rw [e] at this
      rcases this with ⟨h, -⟩ | ⟨h, -⟩ | ⟨h, -⟩ | ⟨h, -⟩ <;> omega
theorem k_look (NM : z_NM n kd wd vl nw nv) (H : z_H n kd) (hpl : ∀ i, i ≤ n → pl i ≤ 400) (S : E_S pl wd c A O b x tc cols xs ys u0) (W : z_wqu kd q x) (hq : q ≤ n) {v : g_St} (D : E_D n kd pl nw wd c b x tc cols xs ys u0 v) {num : Nat} (h2 : 2 ≤ num) (h8 : num ≤ 8) {s : g_St} (hs : E_fk [195] [] v s) (hS : E_lo s (fun _ => False)) : ∃ s', f_Ch_look (some 3) (Int32.ofNat num) s = some ((), s') ∧ E_fk [195] [] v s' ∧ E_lo s' (z_fl nw pl x tc cols num) := by
  have nw8 : ∀ m, num ≤ 3 ∨ num = 5 → ¬ z_wr nw x tc m num := fun m hn h => by
    unfold z_wr at h
    rcases h with ⟨h, -⟩ | ⟨h, -⟩ | ⟨h, -⟩ | ⟨h, -⟩ <;> omega
  unfold f_Ch_look
  by_cases w2 : num = 2
  · obtain ⟨s4, a1, a2, a3⟩ := k_lp NM H hpl S W hq D hs hS
    obtain ⟨s6, b1, b2, b3⟩ := k_ls NM hpl S W hq D a2 a3
    obtain ⟨s8, c1, c2, c3⟩ := k_lc NM hpl S W hq D b2 b3
    have V8 := (D.fk c2.w195).1
    have own := (k_selo S.1).2.2
    rw [z_sv_own] at own
    have i328 : g_I s8 328 ((b 8 + z_tot x.2.1) * 64 + 8) = Int32.ofNat (z_gc x.2.2.1.2.1) := by rw [V8.I (by decide)]; exact own.2.2.2.2.1.2.1
    have gcl : z_gc x.2.2.1.2.1 ≤ 4 := by
      have : ∀ l : List z_It, z_gc l ≤ l.length := by
        intro l
        induction l with
        | nil => exact Nat.le_refl _
        | cons y l ih =>
          have : z_gc (y :: l) = (if y.1 = 0 then 0 else 1) + z_gc l := by unfold z_gc; rw [List.map_cons, List.sum_cons]
          rw [this, List.length_cons]
          split <;> omega
      have := this x.2.2.1.2.1
      have l4 : x.2.2.1.2.1.length ≤ 4 := own.2.2.2.2.2.1.1
      omega
    have fin : ∀ wr : Bool, ∀ p, (wr = true → g_I u0 390 c.1 = Int32.ofNat p ∧ p ≤ 400) → (∀ y, (wr = true ∧ y = p) ↔ ∃ o, x.2.2.2 = some o ∧ 0 < z_gc x.2.2.1.2.1 ∧ y = pl o.1) → ∃ s', f_Ch_look_46 (some 3) (some 3) (z_g wr) s8 = some ((), s') ∧ E_fk [195] [] v s' ∧ E_lo s' (z_fl nw pl x tc cols num) := by
      intro wr p hp hy
      obtain ⟨s', d1, d2, d3⟩ := k_nt c3 wr hp
      refine ⟨s', ?_, c2.trans d2, d3.iff (fun y => ?_)⟩
      · unfold f_Ch_look_46
        rw [x_gR, V8.2.1, x_gI, V8.I (by decide), x_nn, d1, x_c]
      · rw [hy y]
        unfold z_fl
        constructor
        · rintro ((((h | h) | h) | h) | h)
          · exact h.elim
          · exact Or.inl ⟨w2, Or.inl h⟩
          · exact Or.inl ⟨w2, Or.inr (Or.inl h)⟩
          · exact Or.inl ⟨w2, Or.inr (Or.inr (Or.inl h))⟩
          · exact Or.inl ⟨w2, Or.inr (Or.inr (Or.inr h))⟩
        · rintro (⟨-, h | h | h | h⟩ | ⟨h, -⟩ | ⟨h, -⟩ | ⟨m, -, h, -⟩)
          · exact Or.inl (Or.inl (Or.inl (Or.inr h)))
          · exact Or.inl (Or.inl (Or.inr h))
          · exact Or.inl (Or.inr h)
          · exact Or.inr h
          · omega
          · omega
          · exact absurd h (nw8 m (by omega))
    have qr := S.1.2.2.2.2.2.2
    rw [if_pos (by rw [w2]; rfl), x_nn, a1, x_c, x_nn, b1, x_c, x_nn, c1, x_c, x_gR, V8.2.1, x_gI, V8.I (by decide), x_gR, V8.2.1, x_gR, V8.R (by decide), S.1.2.2.2.1, x_gI, i328]
    cases hx : x.2.2.2 with
    | none =>
      rw [hx] at qr
      rw [qr.1, if_pos (by decide)]
      exact fin false 0 (fun h => by cases h) (fun y => ⟨fun h => (by cases h.1), fun ⟨o, e, _⟩ => by rw [hx] at e; cases e⟩)
    | some o =>
      rw [hx] at qr
      obtain ⟨aa, bb, w1, w2', w3, w4, w5⟩ := W
      rw [hx] at w4
      obtain ⟨v1, v2, v3, v4⟩ := w4
      have := v3.le
      have po := hpl o.1 (by omega)
      have ol := qr.2.2.1
      rw [qr.1, if_neg (by rw [show (0 : Int32) = Int32.ofNat 0 from rfl, x_le (by omega) (by omega)]; omega)]
      by_cases g : z_gc x.2.2.1.2.1 ≤ 0
      · rw [if_pos (by rw [show (0 : Int32) = Int32.ofNat 0 from rfl, x_le (by omega) (by omega)]; exact g)]
        exact fin false 0 (fun h => by cases h) (fun y => ⟨fun h => (by cases h.1), fun ⟨o, _, e, _⟩ => by omega⟩)
      · rw [if_neg (by rw [show (0 : Int32) = Int32.ofNat 0 from rfl, x_le (by omega) (by omega)]; exact g)]
        exact fin true (pl o.1) (fun _ => ⟨qr.2.1, po⟩) (fun y => ⟨fun h => ⟨o, hx, by omega, h.2⟩, fun ⟨o', e, _, h⟩ => by rw [hx] at e; cases e; exact ⟨rfl, h⟩⟩)
  · have ne2 : ¬ Int32.ofNat num = 2 := by rw [show (2 : Int32) = Int32.ofNat 2 from rfl, x_eq (by omega) (by omega)]; exact w2
    rw [if_neg ne2]
    by_cases w5 : num = 5
    · obtain ⟨s', a1, a2, a3⟩ := k_lb NM hpl S W hq D hs hS
      rw [if_pos (by rw [w5]; rfl), x_nn, a1, x_c]
      refine ⟨s', rfl, a2, a3.iff (fun y => ?_)⟩
      unfold z_fl
      constructor
      · rintro (h | h)
        · exact h.elim
        · exact Or.inr (Or.inl ⟨w5, h⟩)
      · rintro (⟨h, -⟩ | ⟨-, h⟩ | ⟨h, -⟩ | ⟨m, -, h, -⟩)
        · omega
        · exact Or.inr h
        · omega
        · exact absurd h (nw8 m (by omega))
    · have ne5 : ¬ Int32.ofNat num = 5 := by rw [show (5 : Int32) = Int32.ofNat 5 from rfl, x_eq (by omega) (by omega)]; exact w5
      rw [if_neg ne5]
      exact k_l69 NM hpl S W hq D (by omega) hs hS
/-- the loop over the faults' numbers -/
theorem k_f38 (NM : z_NM n kd wd vl nw nv) (H : z_H n kd) (hpl : ∀ i, i ≤ n → pl i ≤ 400) (S : E_S pl wd c A O b x tc cols xs ys u0) (W : z_wqu kd q x) (hq : q ≤ n) {v : g_St} (D : E_D n kd pl nw wd c b x tc cols xs ys u0 v) : ∀ d num f s, num + d = 9 → 2 ≤ num → d < f → E_fk [195] [] v s → (∀ k y, 2 ≤ k → k < num → ¬ z_fl nw pl x tc cols k y) → ∃ (a : Option (Nat × Nat)) (s' : g_St), q_mn a (fun z => (2 ≤ z.1 ∧ z.1 ≤ 8) ∧ z_fl nw pl x tc cols z.1 z.2) ∧ E_fk [195] [] v s' ∧ (∀ y, a = some y → f_Ch_find_38 f (some 3) (Int32.ofNat num) s = some (Int32.ofNat (y.1 + 10 * y.2), s') ∧ y.2 ≤ 400) ∧ (a = none → f_Ch_find_38 f (some 3) (Int32.ofNat num) s = g_c (f_Ch_levelConditions (some 3) s') fun _ s2 => some (0, s2)) := by
  intro d
  induction d with
  | zero =>
    intro num f s h1 h2 h3 F N
    obtain ⟨f, rfl⟩ : ∃ m, f = m + 1 := ⟨f - 1, by omega⟩
    refine ⟨none, s, fun z hz => N z.1 z.2 hz.1.1 (by omega) hz.2, F, fun y e => (by cases e), fun _ => ?_⟩
    rw [f_Ch_find_38, if_pos (by rw [show (8 : Int32) = Int32.ofNat 8 from rfl, x_lt (by omega) (by omega)]; omega), x_nn]
  | succ d ih =>
    intro num f s h1 h2 h3 F N
    obtain ⟨f, rfl⟩ : ∃ m, f = m + 1 := ⟨f - 1, by omega⟩
    have F3 : E_fk [195] [] v (g_setI s 195 3 401) := F.pI (by decide) _ _
    obtain ⟨s5, a1, a2, m, a3, a4, a5, a6⟩ := k_look NM H hpl S W hq D h2 (by omega) F3 ⟨401, x_Iss _ _ _ _, Nat.le_refl _, fun h => absurd h (by omega), fun p h => h.elim⟩
    have st : f_Ch_find_38 (f + 1) (some 3) (Int32.ofNat num) s = if Int32.ofNat m = 401 then f_Ch_find_38 f (some 3) (Int32.ofNat (num + 1)) s5 else some (Int32.ofNat num + 10 * Int32.ofNat m, s5) := by
      rw [f_Ch_find_38, if_neg (by rw [show (8 : Int32) = Int32.ofNat 8 from rfl, x_lt (by omega) (by omega)]; omega), x_pI, x_nn, a1, x_c, x_gI, a3, x_gI, a3, x_p1]
    have e401 : (Int32.ofNat m = 401) = (m = 401) := x_eq (b := 401) (by omega) (by decide)
    by_cases w : m = 401
    · rw [if_pos (by rw [e401]; exact w)] at st
      obtain ⟨a, s', b1, b2, b3, b4⟩ := ih (num + 1) f s5 (by omega) (by omega) (by omega) a2 (fun k y k1 k2 hk => by
        by_cases e : k = num
        · rw [e] at hk
          have := a6 y hk
          omega
        · exact N k y k1 (by omega) hk)
      refine ⟨a, s', b1, b2, fun y e => ?_, fun e => ?_⟩
      · rw [st]; exact b3 y e
      · rw [st]; exact b4 e
    · rw [if_neg (by rw [e401]; exact w)] at st
      have hm : z_fl nw pl x tc cols num m := a5 (by omega)
      refine ⟨some (num, m), s5, ⟨⟨⟨h2, by show num ≤ 8; omega⟩, hm⟩, fun z hz => ?_⟩, a2, fun y e => ?_, fun e => by cases e⟩
      · by_cases lt : z.1 < num
        · exact absurd hz.2 (N z.1 z.2 hz.1.1 lt)
        · by_cases eq : z.1 = num
          · right
            refine ⟨eq.symm, ?_⟩
            have h := hz.2
            rw [eq] at h
            exact (a6 z.2 h).1
          · left
            show num < z.1
            omega
      · cases e
        refine ⟨?_, by show m ≤ 400; omega⟩
        rw [st, show (10 : Int32) = Int32.ofNat 10 from rfl, x_mul, x_add]
end
