/-! RUNNING (engine): combinations -/
def X_wf (p n0 : Nat) (w w' : g_St) : Prop := (g_cnt w' = g_cnt w ∧ g_cn w' = g_cn w ∧ g_sn w' = g_sn w ∧ g_R w' = g_R w ∧ g_L w' = g_L w ∧ g_AR w' = g_AR w ∧ g_ln w' = g_ln w) ∧ (∀ k a, k ≠ 713 → ¬ (k = 261 ∧ a = 64 * p + 5) → ¬ (a = 4 ∧ (k = 708 ∨ k = 1092 ∨ k = 964 ∨ k = 1028)) → g_I w' k a = g_I w k a) ∧ (∀ a i, ¬ (a = 277 + 64 * p ∧ 4 * n0 ≤ i) → a ≠ 85 → a ≠ 213 → a ≠ 149 → g_AL w' a i = g_AL w a i) ∧ ∀ a i, ¬ ((a = 276 + 128 * p ∨ a = 340 + 128 * p) ∧ n0 ≤ i) → a ≠ 212 → g_AI w' a i = g_AI w a i
section
variable {p n0 : Nat} {u v w : g_St}
theorem X_wf.re : X_wf p n0 w w := ⟨⟨rfl, rfl, rfl, rfl, rfl, rfl, rfl⟩, fun _ _ _ _ _ => rfl, fun _ _ _ _ _ _ => rfl, fun _ _ _ _ => rfl⟩
theorem X_wf.trans (h : X_wf p n0 u v) (g : X_wf p n0 v w) : X_wf p n0 u w := by
  obtain ⟨⟨a1, a2, a3, a4, a5, a6, a7⟩, a8, a9, a10⟩ := h
  obtain ⟨⟨b1, b2, b3, b4, b5, b6, b7⟩, b8, b9, b10⟩ := g
  exact ⟨⟨b1.trans a1, b2.trans a2, b3.trans a3, b4.trans a4, b5.trans a5, b6.trans a6, b7.trans a7⟩, fun k a x y z => (b8 k a x y z).trans (a8 k a x y z), fun a i x y z t => (b9 a i x y z t).trans (a9 a i x y z t), fun a i x y => (b10 a i x y).trans (a10 a i x y)⟩
theorem X_wf.ag (h : X_wf p n0 v w) : E_ag v w := ⟨fun a a1 a2 => ⟨fun k _ _ k3 _ => h.2.1 k a k3 (fun q => by have := q.2; omega) (fun q => by have := q.1; omega), fun k _ => by rw [h.1.2.2.2.1], fun k => by rw [h.1.2.2.2.2.1]⟩, fun a _ _ => ⟨by rw [h.1.2.2.2.2.2.1], by rw [h.1.2.2.2.2.2.2]⟩⟩
theorem X_fm.wf {n : Nat} (h : X_fm p n v w) (l : n0 ≤ n) : X_wf p n0 v w := ⟨h.1, fun k a _ y z => h.2.1 k a y (fun q => z ⟨q.1, by have := q.2; omega⟩), fun a i x y _ _ => h.2.2.1 a i (fun q => x ⟨q.1, by have := q.2; omega⟩) y, fun a i x _ => h.2.2.2 a i (fun q => x ⟨q.1, by have := q.2; omega⟩)⟩
theorem X_gf.wf (h : X_gf v w) : X_wf p n0 v w := ⟨h.1, fun k a _ _ z => h.2.1 k a (fun q => z ⟨q.1, by have := q.2; omega⟩), fun a i _ _ y _ => h.2.2.1 a i y, fun a i _ y => h.2.2.2 a i y⟩
theorem X_wf.at (h : X_wf p n0 v w) (r : Nat) (x : Int32) : X_wf p n0 v (g_setI w 713 r x) := ⟨h.1, fun k a k1 y z => by rw [x_Ik k1]; exact h.2.1 k a k1 y z, h.2.2.1, h.2.2.2⟩
theorem X_wf.it (h : X_wf p n0 v w) (i : Nat) (x : Int64) : X_wf p n0 v (g_setAL w 149 i x) := ⟨h.1, h.2.1, fun a j y z t s => by rw [x_AL_AL, if_neg (fun q => s q.1)]; exact h.2.2.1 a j y z t s, h.2.2.2⟩
/-- a source of a selection, its rows bound -/
def X_ss (w : g_St) (p n0 r : Nat) (V : Nat → Prop) (rows : List r_Row) (mk : Bool) (fr : Nat) : Prop := r % 64 = 9 ∧ ∃ rel cl, g_R w 521 r = some rel ∧ g_R w 69 rel = some cl ∧ g_I w 585 r = Int32.ofNat fr ∧ g_I w 649 r = Int32.ofNat (fr + rows.length) ∧ (fr + rows.length < 60 ∧ 277 ≤ cl ∧ (cl = 277 + 64 * p → fr + rows.length ≤ n0)) ∧ 4 * (fr + rows.length) ≤ g_ln w cl ∧ (∀ j, j < rows.length → ∀ i, i ≤ 3 → V i → g_AL w cl ((fr + j) * 4 + i) = r_hd (rows.getD j []) i) ∧ g_I w 777 r = z_g mk ∧ (mk = true → V 3)
theorem X_ss.wf {r : Nat} {V : Nat → Prop} {rows : List r_Row} {mk : Bool} {fr : Nat} (h : X_ss v p n0 r V rows mk fr) (f : X_wf p n0 v w) : X_ss w p n0 r V rows mk fr := by
  obtain ⟨r9, rel, cl, a1, a2, a3, a4, ⟨a5, a6, a7⟩, a8, a9, a10, a11⟩ := h
  have I : ∀ k, k ≠ 713 → g_I w k r = g_I v k r := fun k hk => f.2.1 k r hk (fun q => by have := q.2; omega) (fun q => by have := q.1; omega)
  refine ⟨r9, rel, cl, by rw [f.1.2.2.2.1]; exact a1, by rw [f.1.2.2.2.1]; exact a2, by rw [I _ (by decide)]; exact a3, by rw [I _ (by decide)]; exact a4, ⟨a5, a6, a7⟩, by rw [f.1.2.2.2.2.2.2]; exact a8, fun j hj i hi hV => ?_, by rw [I _ (by decide)]; exact a10, a11⟩
  rw [f.2.2.1 cl _ (fun q => by have := a7 q.1; have := q.2; omega) (by omega) (by omega) (by omega)]
  exact a9 j hj i hi hV
end
/-- the rows that may be picked -/
def r_pk (mk : Bool) (rows : List r_Row) : List r_Row := rows.filter fun a => !(mk && decide (r_hd a 3 = 1))
def r_ud (ch : Nat → r_Row) (k : Nat) (a : r_Row) : Nat → r_Row := fun j => if j = k then a else ch j
def r_en (ch : Nat → r_Row) : Nat → Nat → Int64 := fun k => r_hd (ch k)
/-- the combinations for which the conditions hold; each is tested at its level -/
def r_cl (tb : (Nat ⊕ Nat) → List (Nat → Int64)) (cds : List r_Cd) (lv : Nat → Nat) (rs : Nat → List r_Row) : Nat → Nat → (Nat → r_Row) → List (Nat → r_Row)
  | 0, l, ch => if ((List.range cds.length).all fun i => !decide (lv i = l) || r_cd tb (r_en ch) (cds.getD i r_cd0)) = true then [ch] else []
  | d + 1, l, ch => if ((List.range cds.length).all fun i => !decide (lv i = l) || r_cd tb (r_en ch) (cds.getD i r_cd0)) = true then (rs l).flatMap fun a => r_cl tb cds lv rs d (l + 1) (r_ud ch l a) else []
theorem y_pass {w : g_St} {p n0 r fr : Nat} {V : Nat → Prop} {rows : List r_Row} {mk : Bool} (h : X_ss w p n0 r V rows mk fr) {j : Nat} (hj : j < rows.length) : f_So_passesOver (some r) (Int32.ofNat (fr + j)) w = some (z_g (mk && decide (r_hd (rows.getD j []) 3 = 1)), w) := by
  obtain ⟨r9, rel, cl, a1, a2, a3, a4, ⟨a5, a6, a7⟩, a8, a9, a10, a11⟩ := h
  unfold f_So_passesOver
  rw [x_gI, a10]
  cases mk with
  | false => rw [if_pos (show z_g false = 0 from rfl)]; rfl
  | true =>
    rw [if_neg (show ¬ z_g true = 0 from by decide), x_gR, a1, x_gR, a2, show (4 : Int32) = Int32.ofNat 4 from rfl, x_mul, show (3 : Int32) = Int32.ofNat 3 from rfl, x_add, x_aL (by omega) (by omega), a9 j hj 3 (by omega) (a11 rfl), Bool.true_and]
    by_cases e : r_hd (rows.getD j []) 3 = 1
    · rw [if_pos e, decide_eq_true e]; rfl
    · rw [if_neg e, decide_eq_false e]; rfl
section
variable {α : Type} {p n0 S n : Nat} {so : Nat → Option Nat} {w0 : g_St} {cds : List r_Cd} {lv : Nat → Nat} {rows : Nat → List r_Row} {mk : Nat → Bool} {fr : Nat → Nat} {V : Nat → Nat → Prop} {tb : (Nat ⊕ Nat) → List (Nat → Int64)} {Rel : g_St → α → Prop} {step : (Nat → r_Row) → α → α} {bad : (Nat → r_Row) → Prop} {fc fo : α → Bool} {rk : Bool}
/-- what combining needs -/
def X_cb (w0 : g_St) (p n0 S n : Nat) (so : Nat → Option Nat) (cds : List r_Cd) (lv : Nat → Nat) (rows : Nat → List r_Row) (mk : Nat → Bool) (fr : Nat → Nat) (V : Nat → Nat → Prop) (tb : (Nat ⊕ Nat) → List (Nat → Int64)) (rk : Bool) : Prop := (S % 64 = 8 ∧ g_R w0 772 4 = some S ∧ g_I w0 456 S = Int32.ofNat n ∧ n ≤ 3 ∧ g_I w0 584 S = Int32.ofNat cds.length ∧ cds.length ≤ 6 ∧ g_I w0 712 S = z_g rk) ∧ (∃ A, g_R w0 392 S = some A ∧ A % 64 = 27 ∧ g_ln w0 A = 3 ∧ ∀ k, k < n → ∃ r, so k = some r ∧ g_AR w0 A k = some r ∧ X_ss w0 p n0 r (V k) (rows k) (mk k) (fr k)) ∧ (∀ k, n ≤ k → so k = none) ∧ (∀ k k' r, so k = some r → so k' = some r → k = k') ∧ ∃ B, g_R w0 520 S = some B ∧ B % 64 = 28 ∧ g_ln w0 B = 6 ∧ ∀ i, i < cds.length → ∃ co, g_AR w0 B i = some co ∧ X_cd w0 so co (cds.getD i r_cd0) ∧ g_I w0 394 co = Int32.ofNat (lv i) ∧ lv i ≤ n ∧ ∃ U : Nat → Prop, (match cds.getD i r_cd0 with | .inl b => r_ucp (fun k j => k < lv i ∧ V k j ∧ j ≤ 3) b | .inr z => ∀ b ∈ z.2, r_ucp (fun k j => ((k < lv i ∧ V k j) ∨ (k = 3 ∧ U j)) ∧ j ≤ 3) b) ∧ ∀ z, cds.getD i r_cd0 = .inr z → ∀ r, g_R w0 202 co = some r → ∃ rel cl, g_R w0 521 r = some rel ∧ g_R w0 69 rel = some cl ∧ g_I w0 585 r = Int32.ofNat 0 ∧ g_I w0 649 r = Int32.ofNat (tb z.1).length ∧ ((tb z.1).length < 60 ∧ 277 ≤ cl ∧ (cl = 277 + 64 * p → (tb z.1).length ≤ n0)) ∧ 4 * (tb z.1).length ≤ g_ln w0 cl ∧ ∀ j, j < (tb z.1).length → ∀ i, i ≤ 3 → U i → g_AL w0 cl (j * 4 + i) = (tb z.1).getD j r_c0 i
/-- the first l sources have the rows ch -/
def X_eb (w : g_St) (so : Nat → Option Nat) (rows : Nat → List r_Row) (fr : Nat → Nat) (l : Nat) (ch : Nat → r_Row) : Prop := ∀ k, k < l → ∃ r j, so k = some r ∧ g_I w 713 r = Int32.ofNat (fr k + j) ∧ j < (rows k).length ∧ (rows k).getD j [] = ch k
/-- the state stands for what has come, or for something with the same errors -/
def X_pr (Rel : g_St → α → Prop) (fc fo : α → Bool) (rk : Bool) (w : g_St) (a : α) : Prop := Rel w a ∨ (rk = false ∧ ∃ a0, Rel w a0 ∧ fc a0 = fc a ∧ fo a0 = fo a ∧ (fc a || fo a) = true)
theorem X_eb.bd (C : X_cb w0 p n0 S n so cds lv rows mk fr V tb rk) {w : g_St} (F : X_wf p n0 w0 w) {l : Nat} (hl : l ≤ n) {ch : Nat → r_Row} (h : X_eb w so rows fr l ch) {k : Nat} (hk : k < l) : X_bd w so (r_en ch) k (fun j => V k j ∧ j ≤ 3) := by
  obtain ⟨c1, ⟨A, c2, c3, c4, c5⟩, c6⟩ := C
  obtain ⟨r, s1, s2, s3⟩ := c5 k (by omega)
  obtain ⟨r', j, e1, e2, e3, e4⟩ := h k hk
  rw [s1] at e1
  cases e1
  obtain ⟨r9, rel, cl, a1, a2, a3, a4, ⟨a5, a6, a7⟩, a8, a9, a10, a11⟩ := s3.wf F
  refine ⟨r, rel, cl, fr k + j, s1, a1, a2, e2, ⟨by omega, a6⟩, by omega, fun i hi => ?_⟩
  rw [a9 j e3 i hi.2 hi.1, e4]
  rfl
end
