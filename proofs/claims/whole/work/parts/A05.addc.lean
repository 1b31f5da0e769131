/-! THE ENGINE'S READER: what comes into the lists -/
theorem z_rng_a {b i t k : Nat} {u : g_St} (hb : b ≤ i) {x : Int64} (h : x ≠ 0) (h2 : g_L u k (i * 64 + t) = 0) : (z_rng b (i + 1) t).filter (fun a => decide (g_L (g_setL u k (i * 64 + t) x) k a ≠ 0)) = (z_rng b (i + 1) t).filter (fun a => decide (g_L u k a ≠ 0)) ++ [i * 64 + t] := by
  rw [z_rng_s hb, List.filter_append, List.filter_append, List.filter_cons_of_pos (by rw [x_L_L, if_pos ⟨rfl, rfl⟩]; exact decide_eq_true h), List.filter_nil, List.filter_cons_of_neg (by rw [h2]; decide), List.filter_nil, List.append_nil]
  congr 1
  refine z_rng_f (fun j j1 j2 => ?_)
  rw [x_L_L, if_neg (fun q => by have := q.2; omega)]
section
variable {n : Nat} {kd pl : Nat → Nat} {wd : Nat → Int64} {c : z_Cx}
theorem E_ad.kp {l : Nat} {u v : g_St} (h : E_ad l u v) (hl : l % 64 = 12) (ho : z_Ok u) (h2 : g_al u 2) : E_kp [] u v := by
  have s2 : E_sm u v 2 := h.2.2 2 h2 (fun e => by rw [← e] at hl; exact absurd hl (by decide)) (fun e => by have := (ho.2 76 (by decide) l 2 e).2.1; exact absurd this (by decide))
  refine ⟨fun t => ?_, fun a h1 h2 h3 h4 _ => h.2.2 a h1 (fun e => h2 (e ▸ hl)) (fun e => h3 (ho.2 76 (by decide) l a e).2.1), fun k _ _ => (s2.1 k).1, fun k _ _ => (s2.1 k).2.2⟩
  by_cases w : t = 30
  · rw [w]; exact h.2.1
  · rw [h.1 t w]; exact Nat.le_refl _
/-- a column comes -/
theorem a_addc (Z : E_cx c) {u : g_St} {r : z_P} {w : Nat} (h : E_b n kd pl wd c u r w) (hw : w ≤ 1265) {i : Nat} (hi : g_cnt u 11 = i + 1) (hB : c.2.2.2.1 11 ≤ i) (h0 : g_L u 395 (i * 64 + 11) = 0) {v : Int64} (hv : ∀ p, r = .inr p → v ≠ 0) :
    ∃ u', f_Al_add (some c.2.2.1) (some (i * 64 + 11)) (g_setL u 395 (i * 64 + 11) v) = some (1, u') ∧ E_b n kd pl wd c u' r (w + 5) ∧ E_ad c.2.2.1 (g_setL u 395 (i * 64 + 11) v) u' := by
  have nw : E_nw c (i * 64 + 11) := by unfold E_nw; rw [(E_num (by decide)).1, (E_num (by decide)).2]; exact ⟨by decide, by decide, by decide, hB⟩
  obtain ⟨b1, b2, b3, b4, b5, ⟨b6, b7, b8, b9⟩, b10, xs, ys, a1, a2, a3, a4, a5, a6, a7⟩ := h
  have hz : E_b n kd pl wd c u r w := ⟨b1, b2, b3, b4, b5, ⟨b6, b7, b8, b9⟩, b10, xs, ys, a1, a2, a3, a4, a5, a6, a7⟩
  have rm := hz.room Z (by omega)
  obtain ⟨s, hs⟩ : ∃ s, s = g_setL u 395 (i * 64 + 11) v := ⟨_, rfl⟩
  have sm : ∀ b, b ≠ i * 64 + 11 → E_sm u s b := fun b hb => by rw [hs]; exact E_sm.re.pL _ _ hb
  have os : z_Ok s := by rw [hs]; exact b4.same rfl rfl
  have e76 : g_R s = g_R u := by rw [hs]; rfl
  have ec : g_cnt s = g_cnt u := by rw [hs]; rfl
  have smk : ∀ b, b % 64 = 12 ∨ b % 64 = 30 → E_sm u s b := fun b hb => sm b (nw.ne hb)
  have lic : ∀ l zs, l % 64 = 12 → E_li u l zs → E_li s l zs := fun l zs hl hz => hz.sm (smk l (Or.inl hl)) (fun t => by rw [ec]; exact Nat.le_refl _) (fun a _ e => smk a (Or.inr (b4.2 76 (by decide) l a e).2.1))
  obtain ⟨u', d1, d2, d3, d4, d5⟩ := e_add (lic _ _ Z.2.2.1 a2) a4 (x := i * 64 + 11) (Or.inr (E_num (by decide)).2) (by rw [ec]; have := b6 30; have := Z.2.2.2.2.2.2.2.2.2; omega) (by show _ < g_cnt s _; rw [ec]; exact b9) Z.2.2.1 (by omega) (show g_cn s < _ by rw [hs]; show g_cn u < _; omega) (show g_sn s + _ + _ ≤ _ by rw [hs]; show g_sn u + _ + _ ≤ _; omega)
  have al2 : g_al s 2 := by show 0 < g_cnt s 2; rw [ec]; have := b6 2; have := Z.2.2.2.2.2.2.2.2.1; omega
  have kp := d5.kp Z.2.2.1 os al2
  have al : ∀ b, g_al u b → g_al s b := fun b hb => by show _ < g_cnt s _; rw [ec]; exact hb
  have k1 : E_kp [i * 64 + 11] u u' := (by rw [hs]; exact E_kp.re.pL (nw.ok u) _ _ : E_kp [i * 64 + 11] u s).trans kp (fun a ha => by cases ha)
  have ov : z_Ok u' := by
    have vz := v_Al_add (u := s) (some c.2.2.1) (some (i * 64 + 11)) s z_V.re d1
    exact vz.2.2.2.2 os
  have s2 : E_sm s u' 2 := d5.2.2 2 al2 (fun e => by have := Z.2.2.1; rw [← e] at this; exact absurd this (by decide)) (fun e => by have := (os.2 76 (by decide) _ 2 e).2.1; exact absurd this (by decide))
  rw [← hs]
  refine ⟨u', d1, hz.kp Z k1 nw.X ?_ ov (Or.inl (fun q => ?_)) ?_ ?_ ?_, d5⟩
  · have e : ∀ k', g_I u' k' 2 = g_I u k' 2 := fun k' => by rw [(s2.1 k').1, hs]; rfl
    unfold E_ps at *
    rw [e, e]
    exact b3
  · have e := List.mem_singleton.mp q
    have := Z.1
    rw [e] at this
    omega
  · have : g_cn s = g_cn u := by rw [hs]; rfl
    omega
  · have : g_sn s = g_sn u := by rw [hs]; rfl
    omega
  · -- the lists
    have l1 : E_li u' c.2.1 xs := (lic _ _ Z.2.1 a1).sm (d5.2.2 _ (al _ b8) Z.2.2.2.1 (fun e => by have := (os.2 76 (by decide) _ _ e).2.1; have := Z.2.1; have e3 : z_kd 76 = 30 := (by decide); omega)) kp.1 (fun a ha e => d5.2.2 a (os.2 76 (by decide) _ _ e).1 (fun e2 => by
      have := (os.2 76 (by decide) _ _ e).2.1
      rw [e2] at this
      have := Z.2.2.1
      have e3 : z_kd 76 = 30 := by decide
      omega) (fun e2 => by
      rcases (os.2 76 (by decide) _ _ e).2.2.2.2 76 (by decide) _ e2 with q | q
      · exact ha q
      · exact Z.2.2.2.1 q.2.symm))
    have kk : E_kl (ys ++ [i * 64 + 11]) := fun j hj => by
      rw [List.length_append, List.length_singleton] at hj
      by_cases y : j < ys.length
      · rw [z_getD_l y]; exact a4 j y
      · rw [show j = ys.length by omega, z_getD_e]; exact Or.inr (E_num (by decide)).2
    refine ⟨xs, ys ++ [i * 64 + 11], l1, d2, a3, kk, by omega, by rw [List.length_append, List.length_singleton]; omega, fun p e => ?_⟩
    obtain ⟨c1, c2⟩ := a7 p e
    have cc : ∀ t, t ≠ 30 → g_cnt u' t = g_cnt u t := fun t ht => by rw [d5.1 t ht, ec]
    have sL : ∀ t j k, t = 9 ∨ t = 11 → j < g_cnt u t → g_L u' k (j * 64 + t) = g_L s k (j * 64 + t) := fun t j k ht hj => by
      have hm : (j * 64 + t) % 64 = t := (E_num (by omega)).2
      have := d5.2.2 (j * 64 + t) (al _ (by rw [E_alc (by omega)]; exact hj)) (fun e => by have := Z.2.2.1; rw [← e] at this; omega) (fun e => by have := (os.2 76 (by decide) _ _ e).2.1; have e3 : z_kd 76 = 30 := (by decide); omega)
      exact (this.1 k).2.1
    constructor
    · rw [c1, cc 9 (by decide)]
      refine z_rng_f (fun j j1 j2 => ?_)
      rw [sL 9 j 329 (Or.inl rfl) j2, hs, x_L_L, if_neg (fun q => by have := q.1; omega)]
    · rw [c2, cc 11 (by decide), hi, ← z_rng_a hB (hv p e) h0]
      refine z_rng_f (fun j j1 j2 => ?_)
      rw [sL 11 j 395 (Or.inr rfl) (by omega), hs]
/-- a source comes -/
theorem a_adds (Z : E_cx c) {u : g_St} {r : z_P} {w : Nat} (h : E_b n kd pl wd c u r w) (hw : w ≤ 1265) {i : Nat} (hi : g_cnt u 9 = i + 1) (hB : c.2.2.2.1 9 ≤ i) (h0 : g_L u 329 (i * 64 + 9) = 0) {v : Int64} (hv : ∀ p, r = .inr p → v ≠ 0) :
    ∃ u', f_Al_add (some c.2.1) (some (i * 64 + 9)) (g_setL u 329 (i * 64 + 9) v) = some (1, u') ∧ E_b n kd pl wd c u' r (w + 5) ∧ E_ad c.2.1 (g_setL u 329 (i * 64 + 9) v) u' := by
  have nw : E_nw c (i * 64 + 9) := by unfold E_nw; rw [(E_num (by decide)).1, (E_num (by decide)).2]; exact ⟨by decide, by decide, by decide, hB⟩
  obtain ⟨b1, b2, b3, b4, b5, ⟨b6, b7, b8, b9⟩, b10, xs, ys, a1, a2, a3, a4, a5, a6, a7⟩ := h
  have hz : E_b n kd pl wd c u r w := ⟨b1, b2, b3, b4, b5, ⟨b6, b7, b8, b9⟩, b10, xs, ys, a1, a2, a3, a4, a5, a6, a7⟩
  have rm := hz.room Z (by omega)
  obtain ⟨s, hs⟩ : ∃ s, s = g_setL u 329 (i * 64 + 9) v := ⟨_, rfl⟩
  have sm : ∀ b, b ≠ i * 64 + 9 → E_sm u s b := fun b hb => by rw [hs]; exact E_sm.re.pL _ _ hb
  have os : z_Ok s := by rw [hs]; exact b4.same rfl rfl
  have e76 : g_R s = g_R u := by rw [hs]; rfl
  have ec : g_cnt s = g_cnt u := by rw [hs]; rfl
  have smk : ∀ b, b % 64 = 12 ∨ b % 64 = 30 → E_sm u s b := fun b hb => sm b (nw.ne hb)
  have lic : ∀ l zs, l % 64 = 12 → E_li u l zs → E_li s l zs := fun l zs hl hz => hz.sm (smk l (Or.inl hl)) (fun t => by rw [ec]; exact Nat.le_refl _) (fun a _ e => smk a (Or.inr (b4.2 76 (by decide) l a e).2.1))
  obtain ⟨u', d1, d2, d3, d4, d5⟩ := e_add (lic _ _ Z.2.1 a1) a3 (x := i * 64 + 9) (Or.inl (E_num (by decide)).2) (by rw [ec]; have := b6 30; have := Z.2.2.2.2.2.2.2.2.2; omega) (by show _ < g_cnt s _; rw [ec]; exact b8) Z.2.1 (by omega) (show g_cn s < _ by rw [hs]; show g_cn u < _; omega) (show g_sn s + _ + _ ≤ _ by rw [hs]; show g_sn u + _ + _ ≤ _; omega)
  have al2 : g_al s 2 := by show 0 < g_cnt s 2; rw [ec]; have := b6 2; have := Z.2.2.2.2.2.2.2.2.1; omega
  have kp := d5.kp Z.2.1 os al2
  have al : ∀ b, g_al u b → g_al s b := fun b hb => by show _ < g_cnt s _; rw [ec]; exact hb
  have k1 : E_kp [i * 64 + 9] u u' := (by rw [hs]; exact E_kp.re.pL (nw.ok u) _ _ : E_kp [i * 64 + 9] u s).trans kp (fun a ha => by cases ha)
  have ov : z_Ok u' := by
    have vz := v_Al_add (u := s) (some c.2.1) (some (i * 64 + 9)) s z_V.re d1
    exact vz.2.2.2.2 os
  have s2 : E_sm s u' 2 := d5.2.2 2 al2 (fun e => by have := Z.2.1; rw [← e] at this; exact absurd this (by decide)) (fun e => by have := (os.2 76 (by decide) _ 2 e).2.1; exact absurd this (by decide))
  rw [← hs]
  refine ⟨u', d1, hz.kp Z k1 nw.X ?_ ov (Or.inl (fun q => ?_)) ?_ ?_ ?_, d5⟩
  · have e : ∀ k', g_I u' k' 2 = g_I u k' 2 := fun k' => by rw [(s2.1 k').1, hs]; rfl
    unfold E_ps at *
    rw [e, e]
    exact b3
  · have e := List.mem_singleton.mp q
    have := Z.1
    rw [e] at this
    omega
  · have : g_cn s = g_cn u := by rw [hs]; rfl
    omega
  · have : g_sn s = g_sn u := by rw [hs]; rfl
    omega
  · -- the lists
    have l1 : E_li u' c.2.2.1 ys := (lic _ _ Z.2.2.1 a2).sm (d5.2.2 _ (al _ b9) (fun e => Z.2.2.2.1 e.symm) (fun e => by have := (os.2 76 (by decide) _ _ e).2.1; have := Z.2.2.1; have e3 : z_kd 76 = 30 := (by decide); omega)) kp.1 (fun a ha e => d5.2.2 a (os.2 76 (by decide) _ _ e).1 (fun e2 => by
      have := (os.2 76 (by decide) _ _ e).2.1
      rw [e2] at this
      have := Z.2.1
      have e3 : z_kd 76 = 30 := by decide
      omega) (fun e2 => by
      rcases (os.2 76 (by decide) _ _ e).2.2.2.2 76 (by decide) _ e2 with q | q
      · exact ha q
      · exact Z.2.2.2.1 q.2))
    have kk : E_kl (xs ++ [i * 64 + 9]) := fun j hj => by
      rw [List.length_append, List.length_singleton] at hj
      by_cases y : j < xs.length
      · rw [z_getD_l y]; exact a3 j y
      · rw [show j = xs.length by omega, z_getD_e]; exact Or.inl (E_num (by decide)).2
    refine ⟨xs ++ [i * 64 + 9], ys, d2, l1, kk, a4, by rw [List.length_append, List.length_singleton]; omega, by omega, fun p e => ?_⟩
    obtain ⟨c1, c2⟩ := a7 p e
    have cc : ∀ t, t ≠ 30 → g_cnt u' t = g_cnt u t := fun t ht => by rw [d5.1 t ht, ec]
    have sL : ∀ t j k, t = 9 ∨ t = 11 → j < g_cnt u t → g_L u' k (j * 64 + t) = g_L s k (j * 64 + t) := fun t j k ht hj => by
      have hm : (j * 64 + t) % 64 = t := (E_num (by omega)).2
      have := d5.2.2 (j * 64 + t) (al _ (by rw [E_alc (by omega)]; exact hj)) (fun e => by have := Z.2.1; rw [← e] at this; omega) (fun e => by have := (os.2 76 (by decide) _ _ e).2.1; have e3 : z_kd 76 = 30 := (by decide); omega)
      exact (this.1 k).2.1
    constructor
    · rw [c1, cc 9 (by decide), hi, ← z_rng_a hB (hv p e) h0]
      refine z_rng_f (fun j j1 j2 => ?_)
      rw [sL 9 j 329 (Or.inl rfl) (by omega), hs]
    · rw [c2, cc 11 (by decide)]
      refine z_rng_f (fun j j1 j2 => ?_)
      rw [sL 11 j 395 (Or.inr rfl) j2, hs, x_L_L, if_neg (fun q => by have := q.1; omega)]
end
