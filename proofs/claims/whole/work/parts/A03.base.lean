/-! THE ENGINE'S READER: its base -/
def z_prot : List Nat := (e_tab.map (·.2.1)).filter (fun a => a ≠ 2) ++ e_tab.map (·.2.2.1) ++ [1237]
theorem z_prot_k : ∀ a ∈ z_prot, a % 64 ≠ 12 ∧ a % 64 ≠ 30 ∧ a % 64 ≠ 2 := by decide +kernel
theorem z_prot_t : ∀ q ∈ e_tab, ((q.2.1 = 2 ∧ q.1 ≠ 514 ∧ q.1 ≠ 578) ∨ q.2.1 ∈ z_prot) ∧ q.2.2.1 ∈ z_prot := by decide +kernel
theorem E_fx {X : List Nat} {u v : g_St} (h : e_Fix u) (hp : ∀ a ∈ z_prot, g_al u a ∧ a ∉ X) (k : E_kp X u v) : e_Fix v := by
  have sm : ∀ a ∈ z_prot, E_sm u v a := fun a ha => k.at (hp a ha).1 (z_prot_k a ha) (hp a ha).2
  obtain ⟨h1, h2, h3, h4, h5, h6⟩ := h
  refine ⟨fun q hq => ?_, ?_, ?_, ?_, fun i hi => ?_, ?_⟩
  · obtain ⟨a1, a2⟩ := z_prot_t q hq
    obtain ⟨b1, b2⟩ := h1 q hq
    rw [(sm _ a2).2.2.2.2]
    refine ⟨?_, b2⟩
    rcases a1 with ⟨c1, c2, c3⟩ | c
    · rw [c1, k.2.2.2 _ c2 c3, ← c1]; exact b1
    · rw [((sm _ c).1 _).2.2]; exact b1
  · rw [((sm 0 (by decide)).1 _).2.2]; exact h2
  · rw [((sm 0 (by decide)).1 _).2.2]; exact h3
  · rw [((sm 0 (by decide)).1 _).2.2]; exact h4
  · rw [(sm 93 (by decide)).2.2.2.1]; exact h5 i hi
  · rw [(sm 1237 (by decide)).2.2.2.2]; exact h6
/-- the objects of a kind from one number to another -/
def z_rng (b c t : Nat) : List Nat := (List.range' b (c - b)).map (fun i => i * 64 + t)
def E_ps (u : g_St) (n : Nat) (r : z_P) : Prop := match r with
  | .inl q => g_I u 386 2 = 1 ∧ g_I u 322 2 = Int32.ofNat q ∧ q ≤ n
  | .inr p => g_I u 386 2 = 0 ∧ g_I u 322 2 = Int32.ofNat p ∧ p ≤ n
/-- where the reader works: the query, its lists, what was there before, the room -/
abbrev z_Cx : Type := Nat × Nat × Nat × (Nat → Nat) × Nat × Nat
def E_cx (c : z_Cx) : Prop := c.1 % 64 = 6 ∧ c.2.1 % 64 = 12 ∧ c.2.2.1 % 64 = 12 ∧ c.2.1 ≠ c.2.2.1 ∧ (∀ a ∈ z_prot, a / 64 < c.2.2.2.1 (a % 64)) ∧ c.2.2.2.2.1 + 6500 ≤ 601024 ∧ c.2.2.2.2.2 + 195000 ≤ 7293034 ∧ c.2.2.2.1 6 ≤ c.1 / 64 ∧ 1 ≤ c.2.2.2.1 2 ∧ 1 ≤ c.2.2.2.1 30
def E_ls (c : z_Cx) (u : g_St) (r : z_P) (w : Nat) : Prop := ∃ xs ys, E_li u c.2.1 xs ∧ E_li u c.2.2.1 ys ∧ E_kl xs ∧ E_kl ys ∧ 5 * xs.length ≤ w ∧ 5 * ys.length ≤ w ∧ ∀ p, r = .inr p → xs = ((z_rng (c.2.2.2.1 9) (g_cnt u 9) 9).filter fun a => decide (g_L u 329 a ≠ 0)) ∧ ys = (z_rng (c.2.2.2.1 11) (g_cnt u 11) 11).filter fun a => decide (g_L u 395 a ≠ 0)
def E_b (n : Nat) (kd pl : Nat → Nat) (wd : Nat → Int64) (c : z_Cx) (u : g_St) (r : z_P) (w : Nat) : Prop :=
  e_Fix u ∧ z_tkE u n kd pl wd ∧ E_ps u n r ∧ z_Ok u ∧ (g_R u 450 2 = some c.1 ∧ g_R u 518 c.1 = some c.2.1 ∧ g_R u 582 c.1 = some c.2.2.1) ∧ ((∀ t, c.2.2.2.1 t ≤ g_cnt u t) ∧ g_al u c.1 ∧ g_al u c.2.1 ∧ g_al u c.2.2.1) ∧ (g_cn u ≤ c.2.2.2.2.1 + 5 * w ∧ g_sn u ≤ c.2.2.2.2.2 + 150 * w) ∧ E_ls c u r w
/-- only the reader's place has changed -/
def E_as (u v : g_St) : Prop := g_cnt v = g_cnt u ∧ g_cn v = g_cn u ∧ g_sn v = g_sn u ∧ g_L v = g_L u ∧ g_R v = g_R u ∧ g_AI v = g_AI u ∧ g_AL v = g_AL u ∧ g_AR v = g_AR u ∧ g_ln v = g_ln u ∧ ∀ k a, ¬ (a = 2 ∧ (k = 322 ∨ k = 386)) → g_I v k a = g_I u k a
theorem E_as.re {u : g_St} : E_as u u := ⟨rfl, rfl, rfl, rfl, rfl, rfl, rfl, rfl, rfl, fun _ _ _ => rfl⟩
theorem E_as.set {u : g_St} {k : Nat} (hk : k = 322 ∨ k = 386) (x : Int32) : E_as u (g_setI u k 2 x) := ⟨rfl, rfl, rfl, rfl, rfl, rfl, rfl, rfl, rfl, fun k' a h => by rw [x_I_I, if_neg (fun q => h ⟨q.2, by omega⟩)]⟩
theorem E_as.sm {u v : g_St} (h : E_as u v) {a : Nat} (ha : a ≠ 2) : E_sm u v a := by
  obtain ⟨h1, h2, h3, h4, h5, h6, h7, h8, h9, h10⟩ := h
  exact ⟨fun k => ⟨h10 k a (fun q => ha q.1), by rw [h4], by rw [h5]⟩, by rw [h6], by rw [h7], by rw [h8], by rw [h9]⟩
theorem E_as.kp {u v : g_St} (h : E_as u v) (X : List Nat) : E_kp X u v := ⟨fun t => by rw [h.1]; exact Nat.le_refl _, fun a _ _ _ h4 _ => h.sm h4, fun k a b => h.2.2.2.2.2.2.2.2.2 k 2 (fun q => by have := q.2; omega), fun k a b => by rw [h.2.2.2.2.1]⟩
theorem E_as.trans {u v w : g_St} (h : E_as u v) (g : E_as v w) : E_as u w := ⟨g.1.trans h.1, g.2.1.trans h.2.1, g.2.2.1.trans h.2.2.1, g.2.2.2.1.trans h.2.2.2.1, g.2.2.2.2.1.trans h.2.2.2.2.1, g.2.2.2.2.2.1.trans h.2.2.2.2.2.1, g.2.2.2.2.2.2.1.trans h.2.2.2.2.2.2.1, g.2.2.2.2.2.2.2.1.trans h.2.2.2.2.2.2.2.1, g.2.2.2.2.2.2.2.2.1.trans h.2.2.2.2.2.2.2.2.1, fun k a q => (g.2.2.2.2.2.2.2.2.2 k a q).trans (h.2.2.2.2.2.2.2.2.2 k a q)⟩
theorem z_Ok.same {u v : g_St} (h : z_Ok u) (h1 : g_cnt v = g_cnt u) (h2 : g_R v = g_R u) : z_Ok v := by
  unfold z_Ok g_al at *
  rw [h1, h2]
  exact h
/-- a list is as it was, if it and its array are -/
theorem E_li.sm {u v : g_St} {l : Nat} {xs : List Nat} (h : E_li u l xs) (s1 : E_sm u v l) (hc : ∀ t, g_cnt u t ≤ g_cnt v t) (s2 : ∀ a, a ≠ 30 → g_R u 76 l = some a → E_sm u v a) : E_li v l xs := by
  obtain ⟨h1, a, h2, h3⟩ := h
  refine ⟨by rw [(s1.1 _).1]; exact h1, a, by rw [(s1.1 _).2.2]; exact h2, ?_⟩
  rcases h3 with h3 | ⟨b1, b2, b3, b4, b5, b6, b7⟩
  · exact Or.inl h3
  · have s := s2 a (fun e => by rw [e] at b2; exact absurd b2 (by decide)) h2
    refine Or.inr ⟨b1, b2, E_alm hc b3, ?_, ?_, ?_, ?_⟩
    · rw [s.2.2.2.2]; exact b4
    · rw [s.2.2.2.2]; exact b5
    · rw [s.2.2.2.1]; exact b6
    · rw [s.2.2.2.1]; exact b7
section
variable {n : Nat} {kd pl : Nat → Nat} {wd : Nat → Int64} {c : z_Cx}
theorem E_b.mono {u : g_St} {r : z_P} {w w' : Nat} (h : E_b n kd pl wd c u r w) (l : w ≤ w') : E_b n kd pl wd c u r w' := by
  obtain ⟨h1, h2, h3, h4, h5, h6, ⟨h7, h8⟩, xs, ys, a1, a2, a3, a4, a5, a6, a7⟩ := h
  exact ⟨h1, h2, h3, h4, h5, h6, ⟨by omega, by omega⟩, xs, ys, a1, a2, a3, a4, by omega, by omega, a7⟩
theorem E_b.al2 {u : g_St} {r : z_P} {w : Nat} (h : E_b n kd pl wd c u r w) (Z : E_cx c) : ∀ a ∈ z_prot, g_al u a := fun a ha => Nat.lt_of_lt_of_le (Z.2.2.2.2.1 a ha) (h.2.2.2.2.2.1.1 _)
theorem z_tkE.kp {X : List Nat} {u v : g_St} (h : z_tkE u n kd pl wd) (hp : ∀ a ∈ z_prot, g_al u a ∧ a ∉ X) (k : E_kp X u v) : z_tkE v n kd pl wd := by
  have sm : ∀ a ∈ z_prot, E_sm u v a := fun a ha => k.at (hp a ha).1 (z_prot_k a ha) (hp a ha).2
  intro i hi
  rw [(sm 23 (by decide)).2.2.2.1, (sm 20 (by decide)).2.1, (sm 21 (by decide)).2.2.1]
  exact h i hi
/-- what isn't touched by a step that keeps all but X -/
theorem E_b.kp {X : List Nat} {u v : g_St} {r : z_P} {w : Nat} (Z : E_cx c) (h : E_b n kd pl wd c u r w) (k : E_kp X u v) (hX : ∀ a ∈ X, c.2.2.2.1 (a % 64) ≤ a / 64) {r' : z_P} {w' : Nat} (hp : E_ps v n r') (ho : z_Ok v) (hq : c.1 ∉ X ∨ (g_R v 518 c.1 = some c.2.1 ∧ g_R v 582 c.1 = some c.2.2.1)) (h1 : g_cn v ≤ c.2.2.2.2.1 + 5 * w') (h2 : g_sn v ≤ c.2.2.2.2.2 + 150 * w') (hl : E_ls c v r' w') : E_b n kd pl wd c v r' w' := by
  have hp2 : ∀ a ∈ z_prot, g_al u a ∧ a ∉ X := fun a ha => ⟨h.al2 Z a ha, fun q => by have := hX a q; have := Z.2.2.2.2.1 a ha; omega⟩
  obtain ⟨a1, a2, a3, a4, ⟨a5, a6, a7⟩, ⟨a8, a9, a10, a11⟩, a12, a13⟩ := h
  refine ⟨E_fx a1 hp2 k, a2.kp hp2 k, hp, ho, ⟨by rw [k.2.2.2 450 (by decide) (by decide)]; exact a5, ?_⟩, ⟨fun t => Nat.le_trans (a8 t) (k.1 t), E_alm k.1 a9, E_alm k.1 a10, E_alm k.1 a11⟩, ⟨h1, h2⟩, hl⟩
  rcases hq with q | q
  · have s := k.at a9 (by rw [Z.1]; decide) q
    rw [(s.1 _).2.2, (s.1 _).2.2]
    exact ⟨a6, a7⟩
  · exact q
theorem E_b.as {u v : g_St} {r r' : z_P} {w : Nat} (Z : E_cx c) (h : E_b n kd pl wd c u r w) (g : E_as u v) (hp : E_ps v n r') (hr : ∀ p, r' = .inr p → ∃ q, r = .inr q) : E_b n kd pl wd c v r' w := by
  refine h.kp Z (g.kp []) (fun a ha => by cases ha) hp (h.2.2.2.1.same g.1 g.2.2.2.2.1) (Or.inl (by simp)) (by rw [g.2.1]; exact h.2.2.2.2.2.2.1.1) (by rw [g.2.2.1]; exact h.2.2.2.2.2.2.1.2) ?_
  obtain ⟨xs, ys, a1, a2, a3, a4, a5, a6, a7⟩ := h.2.2.2.2.2.2.2
  have n1 : c.2.1 ≠ 2 := fun e => by have := Z.2.1; rw [e] at this; exact absurd this (by decide)
  have n2 : c.2.2.1 ≠ 2 := fun e => by have := Z.2.2.1; rw [e] at this; exact absurd this (by decide)
  have hz := h.2.2.2.1
  have kz : ∀ l a, g_R u 76 l = some a → a ≠ 2 := fun l a e y => by
    have := (hz.2 76 (by decide) l a e).2.1
    rw [y] at this
    exact absurd this (by decide)
  refine ⟨xs, ys, a1.sm (g.sm n1) (fun t => by rw [g.1]; exact Nat.le_refl _) (fun a _ e => g.sm (kz _ a e)), a2.sm (g.sm n2) (fun t => by rw [g.1]; exact Nat.le_refl _) (fun a _ e => g.sm (kz _ a e)), a3, a4, a5, a6, fun p e => ?_⟩
  obtain ⟨q, e2⟩ := hr p e
  rw [g.1, g.2.2.2.1]
  exact a7 q e2
/-! the primitives -/
theorem a_ac (Z : E_cx c) (H : z_H n kd) {u : g_St} {r : z_P} {w : Nat} (h : E_b n kd pl wd c u r w) {k : Nat} (hk : k < 38) : ∃ u', f_Re_accept (some 2) (some (k * 64 + 13)) u = some (z_g (z_skr kd k r).1, u') ∧ E_b n kd pl wd c u' (z_skr kd k r).2 w ∧ E_as u u' := by
  cases r with
  | inl q => exact ⟨u, pE_acceptS h.2.2.1.1 _, h, E_as.re⟩
  | inr p =>
    have e := pE_accept h.1 h.2.1 H.2.1 h.2.2.1.2.2 h.2.2.1.1 h.2.2.1.2.1 k
    by_cases w : kd p = k
    · rw [if_pos w] at e
      rw [z_skr_t w]
      refine ⟨_, e, h.as Z (E_as.set (Or.inl rfl) _) ⟨?_, ?_, ?_⟩ (fun _ _ => ⟨p, rfl⟩), E_as.set (Or.inl rfl) _⟩
      · rw [x_I_I, if_neg (fun q => by have := q.1; omega)]; exact h.2.2.1.1
      · rw [x_I_I, if_pos ⟨rfl, rfl⟩]
      · exact H.2.2 p h.2.2.1.2.2 (by omega)
    · rw [if_neg w] at e
      rw [z_skr_f w]
      exact ⟨u, e, h, E_as.re⟩
theorem a_ex (Z : E_cx c) (H : z_H n kd) {u : g_St} {r : z_P} {w : Nat} (h : E_b n kd pl wd c u r w) {k : Nat} (hk : k < 38) : ∃ u', f_Re_expect (some 2) (some (k * 64 + 13)) u = some ((), u') ∧ E_b n kd pl wd c u' (z_ndr kd k r) w ∧ E_as u u' := by
  cases r with
  | inl q => exact ⟨u, pE_expectS h.2.2.1.1 _, h, E_as.re⟩
  | inr p =>
    have e := pE_expect h.1 h.2.1 H.2.1 h.2.2.1.2.2 h.2.2.1.1 h.2.2.1.2.1 k
    by_cases w : kd p = k
    · rw [if_pos w] at e
      rw [z_ndr_t w]
      refine ⟨_, e, h.as Z (E_as.set (Or.inl rfl) _) ⟨?_, ?_, ?_⟩ (fun _ _ => ⟨p, rfl⟩), E_as.set (Or.inl rfl) _⟩
      · rw [x_I_I, if_neg (fun q => by have := q.1; omega)]; exact h.2.2.1.1
      · rw [x_I_I, if_pos ⟨rfl, rfl⟩]
      · exact H.2.2 p h.2.2.1.2.2 (by omega)
    · rw [if_neg w] at e
      have e2 : z_ndr kd k (.inr p) = .inl p := by unfold z_ndr; simp only []; rw [if_neg w]
      rw [e2]
      refine ⟨_, e, h.as Z (E_as.set (Or.inr rfl) _) ⟨?_, ?_, ?_⟩ (fun _ y => by cases y), E_as.set (Or.inr rfl) _⟩
      · rw [x_I_I, if_pos ⟨rfl, rfl⟩]
      · rw [x_I_I, if_neg (fun q => by have := q.1; omega)]; exact h.2.2.1.2.1
      · exact h.2.2.1.2.2
theorem a_nm (Z : E_cx c) (H : z_H n kd) {u : g_St} {r : z_P} {w : Nat} (h : E_b n kd pl wd c u r w) : ∃ v u', f_Re_name (some 2) u = some (v, u') ∧ E_b n kd pl wd c u' (z_ndr kd 36 r) w ∧ E_as u u' ∧ ∀ p, r = .inr p → kd p = 36 → v = wd p := by
  cases r with
  | inl q => exact ⟨0, u, pE_nameS h.2.2.1.1, h, E_as.re, fun p w => by cases w⟩
  | inr p =>
    have e := pE_name h.1 h.2.1 H.2.1 h.2.2.1.2.2 h.2.2.1.1 h.2.2.1.2.1
    by_cases w : kd p = 36
    · rw [if_pos w] at e
      rw [z_ndr_t w]
      refine ⟨_, _, e, h.as Z (E_as.set (Or.inl rfl) _) ⟨?_, ?_, ?_⟩ (fun _ _ => ⟨p, rfl⟩), E_as.set (Or.inl rfl) _, fun p' e' _ => by cases e'; rfl⟩
      · rw [x_I_I, if_neg (fun q => by have := q.1; omega)]; exact h.2.2.1.1
      · rw [x_I_I, if_pos ⟨rfl, rfl⟩]
      · exact H.2.2 p h.2.2.1.2.2 (by omega)
    · rw [if_neg w] at e
      have e2 : z_ndr kd 36 (.inr p) = .inl p := by unfold z_ndr; simp only []; rw [if_neg w]
      rw [e2]
      refine ⟨_, _, e, h.as Z (E_as.set (Or.inr rfl) _) ⟨?_, ?_, ?_⟩ (fun _ y => by cases y), E_as.set (Or.inr rfl) _, fun p' e' w' => by cases e'; exact absurd w' w⟩
      · rw [x_I_I, if_pos ⟨rfl, rfl⟩]
      · rw [x_I_I, if_neg (fun q => by have := q.1; omega)]; exact h.2.2.1.2.1
      · exact h.2.2.1.2.2
/-- where the reader stands -/
theorem a_pl {u : g_St} {r : z_P} {w : Nat} (H : z_H n kd) (h : E_b n kd pl wd c u r w) : g_R u 194 2 = some 20 ∧ g_ln u 20 = 401 ∧ g_I u 322 2 = Int32.ofNat (z_pk r) ∧ z_pk r ≤ n ∧ n ≤ 400 ∧ g_AI u 20 (z_pk r) = Int32.ofNat (pl (z_pk r)) ∧ g_R u 258 2 = some 21 ∧ g_ln u 21 = 401 ∧ g_R u 130 2 = some 23 ∧ g_ln u 23 = 401 ∧ g_AR u 23 (z_pk r) = some (kd (z_pk r) * 64 + 13) ∧ g_AL u 21 (z_pk r) = wd (z_pk r) := by
  have t : ∀ q ∈ e_tab, g_R u q.1 q.2.1 = some q.2.2.1 ∧ g_ln u q.2.2.1 = q.2.2.2 := h.1.1
  have k1 := t (194, 2, 20, 401) (by decide)
  have k2 := t (258, 2, 21, 401) (by decide)
  have k3 := t (130, 2, 23, 401) (by decide)
  have hp : g_I u 322 2 = Int32.ofNat (z_pk r) ∧ z_pk r ≤ n := by
    cases r with
    | inl q => exact h.2.2.1.2
    | inr q => exact h.2.2.1.2
  have tk := h.2.1 (z_pk r) hp.2
  exact ⟨k1.1, k1.2, hp.1, hp.2, H.2.1, tk.2.1, k2.1, k2.2, k3.1, k3.2, tk.1, tk.2.2⟩
end
