/-! THE ENGINE'S READER: single steps -/
theorem z_Ok.pR {u : g_St} (h : z_Ok u) {k : Nat} (hk : k ∉ z_aK) (a : Nat) (v : Option Nat) : z_Ok (g_setR u k a v) := by
  have e : ∀ k' ∈ z_aK, ∀ b, g_R (g_setR u k a v) k' b = g_R u k' b := fun k' h' b => by
    have ne : k' ≠ k := fun e => hk (e ▸ h')
    rw [x_R_R, if_neg (fun q => ne q.1)]
  refine ⟨h.1, fun k' h' b x hx => ?_⟩
  rw [e k' h'] at hx
  obtain ⟨a1, a2, a3, a4, a5⟩ := h.2 k' h' b x hx
  exact ⟨a1, a2, a3, a4, fun k'' h'' b'' hx'' => a5 k'' h'' b'' (by rw [← e k'' h'']; exact hx'')⟩
theorem z_Ok.mk {u : g_St} (h : z_Ok u) {t : Nat} (ht : t < 64) (n m : Nat) : z_Ok (g_mk u t n m) := by
  have al : ∀ a, g_al u a → g_al (g_mk u t n m) a := fun a ha => E_alm (fun t' => by
    rw [x_cnt_mk]
    by_cases w : t' = t
    · rw [if_pos w, w]; exact Nat.le_succ _
    · rw [if_neg w]; exact Nat.le_refl _) ha
  have e : ∀ k b x, g_R (g_mk u t n m) k b = some x → g_R u k b = some x := fun k b x hx => by
    rw [x_R_mk] at hx
    by_cases w : b = g_cnt u t * 64 + t
    · rw [if_pos w] at hx; cases hx
    · rw [if_neg w] at hx; exact hx
  refine ⟨fun a ha => al a (h.1 a ha), fun k hk b x hx => ?_⟩
  obtain ⟨a1, a2, a3, a4, a5⟩ := h.2 k hk b x (e k b x hx)
  exact ⟨al _ a1, a2, a3, a4, fun k'' h'' b'' hx'' => a5 k'' h'' b'' (e k'' b'' x hx'')⟩
theorem z_rng_s {b c : Nat} (h : b ≤ c) (t : Nat) : z_rng b (c + 1) t = z_rng b c t ++ [c * 64 + t] := by
  unfold z_rng
  rw [show c + 1 - b = (c - b) + 1 by omega, List.range'_concat, List.map_append, List.map_singleton, show b + 1 * (c - b) = c by omega]
theorem z_rng_m {b c t a : Nat} (h : a ∈ z_rng b c t) : ∃ i, b ≤ i ∧ i < c ∧ a = i * 64 + t := by
  unfold z_rng at h
  obtain ⟨i, h1, h2⟩ := List.mem_map.mp h
  rw [List.mem_range'_1] at h1
  exact ⟨i, h1.1, by omega, h2.symm⟩
theorem z_rng_f {b c t : Nat} {f g : Nat → Bool} (h : ∀ i, b ≤ i → i < c → f (i * 64 + t) = g (i * 64 + t)) : (z_rng b c t).filter f = (z_rng b c t).filter g := by
  refine List.filter_congr (fun a ha => ?_)
  obtain ⟨i, h1, h2, e⟩ := z_rng_m ha
  rw [e]
  exact h i h1 h2
section
variable {n : Nat} {kd pl : Nat → Nat} {wd : Nat → Int64} {c : z_Cx}
/-- the lists stay, if no name of a source or a column is changed and none comes -/
theorem E_ls.kp {u v : g_St} {r r' : z_P} {w w' : Nat} (Z : E_cx c) (h : E_ls c u r w) (ho : z_Ok u) (hc : ∀ t, g_cnt u t ≤ g_cnt v t) (s : ∀ a, a % 64 = 12 ∨ a % 64 = 30 → g_al u a → E_sm u v a) (l1 : g_al u c.2.1) (l2 : g_al u c.2.2.1) (l : w ≤ w') (hr : ∀ p, r' = .inr p → ∃ q, r = .inr q) (h9 : ∀ i, i < g_cnt v 9 → g_L v 329 (i * 64 + 9) = if i < g_cnt u 9 then g_L u 329 (i * 64 + 9) else 0) (h11 : ∀ i, i < g_cnt v 11 → g_L v 395 (i * 64 + 11) = if i < g_cnt u 11 then g_L u 395 (i * 64 + 11) else 0) (hB : ∀ t, c.2.2.2.1 t ≤ g_cnt u t) : E_ls c v r' w' := by
  obtain ⟨xs, ys, a1, a2, a3, a4, a5, a6, a7⟩ := h
  have k76 : ∀ l a, a ≠ 30 → g_R u 76 l = some a → E_sm u v a := fun l a _ e => by
    obtain ⟨b1, b2, -⟩ := ho.2 76 (by decide) l a e
    exact s a (Or.inr b2) b1
  refine ⟨xs, ys, a1.sm (s _ (Or.inl Z.2.1) l1) hc (k76 _), a2.sm (s _ (Or.inl Z.2.2.1) l2) hc (k76 _), a3, a4, by omega, by omega, fun p e => ?_⟩
  obtain ⟨q, e2⟩ := hr p e
  obtain ⟨b1, b2⟩ := a7 q e2
  have gen : ∀ (t k : Nat) (hk : ∀ i, i < g_cnt v t → g_L v k (i * 64 + t) = if i < g_cnt u t then g_L u k (i * 64 + t) else 0), ∀ d m, m = g_cnt u t + d → m ≤ g_cnt v t → (z_rng (c.2.2.2.1 t) m t).filter (fun a => decide (g_L v k a ≠ 0)) = (z_rng (c.2.2.2.1 t) (g_cnt u t) t).filter (fun a => decide (g_L u k a ≠ 0)) := by
    intro t k hk d
    induction d with
    | zero =>
      intro m hm hm2
      rw [Nat.add_zero] at hm
      rw [hm]
      refine z_rng_f (fun i i1 i2 => ?_)
      rw [hk i (by omega), if_pos i2]
    | succ d ih =>
      intro m hm hm2
      rw [hm, show g_cnt u t + (d + 1) = (g_cnt u t + d) + 1 from rfl, z_rng_s (by have := hB t; omega), List.filter_append, ih _ rfl (by omega)]
      rw [List.filter_cons_of_neg (by rw [hk _ (by omega), if_neg (by omega)]; decide), List.filter_nil, List.append_nil]
  have m9 := hc 9
  have m11 := hc 11
  rw [b1, b2]
  exact ⟨(gen 9 329 h9 (g_cnt v 9 - g_cnt u 9) (g_cnt v 9) (by omega) (Nat.le_refl _)).symm, (gen 11 395 h11 (g_cnt v 11 - g_cnt u 11) (g_cnt v 11) (by omega) (Nat.le_refl _)).symm⟩
/-- a place where something of the new query is written -/
def E_nw (c : z_Cx) (a : Nat) : Prop := a % 64 ≠ 12 ∧ a % 64 ≠ 30 ∧ a % 64 ≠ 2 ∧ c.2.2.2.1 (a % 64) ≤ a / 64
theorem E_nw.ne2 {a : Nat} (h : E_nw c a) : a ≠ 2 := fun e => h.2.2.1 (by rw [e])
theorem E_nw.X {a : Nat} (h : E_nw c a) : ∀ b ∈ [a], c.2.2.2.1 (b % 64) ≤ b / 64 := fun b hb => by rw [List.mem_singleton.mp hb]; exact h.2.2.2
theorem E_nw.ok {a : Nat} (h : E_nw c a) (u : g_St) : E_ok [a] u a := ⟨h.ne2, Or.inl (List.mem_singleton.mpr rfl)⟩
theorem E_nw.ne {a b : Nat} (h : E_nw c a) (hb : b % 64 = 12 ∨ b % 64 = 30) : b ≠ a := fun e => by
  rw [e] at hb
  rcases hb with q | q
  · exact h.1 q
  · exact h.2.1 q
theorem E_b.pI (Z : E_cx c) {u : g_St} {r : z_P} {w : Nat} (h : E_b n kd pl wd c u r w) {a : Nat} (ha : E_nw c a) (k : Nat) (x : Int32) : E_b n kd pl wd c (g_setI u k a x) r w := by
  refine h.kp Z (E_kp.re.pI (ha.ok u) k x) ha.X ?_ (h.2.2.2.1.same rfl rfl) (Or.inr h.2.2.2.2.1.2) h.2.2.2.2.2.2.1.1 h.2.2.2.2.2.2.1.2 (h.2.2.2.2.2.2.2.kp Z h.2.2.2.1 (fun _ => Nat.le_refl _) (fun b hb _ => E_sm.re.pI k x (ha.ne hb)) h.2.2.2.2.2.1.2.2.1 h.2.2.2.2.2.1.2.2.2 (Nat.le_refl _) (fun p e => ⟨p, e⟩) (fun i hi => (if_pos hi).symm) (fun i hi => (if_pos hi).symm) h.2.2.2.2.2.1.1)
  have e : ∀ k', g_I (g_setI u k a x) k' 2 = g_I u k' 2 := fun k' => by rw [x_I_I, if_neg (fun q => ha.ne2 q.2.symm)]
  have := h.2.2.1
  unfold E_ps at *
  rw [e, e]
  exact this
theorem E_b.pL (Z : E_cx c) {u : g_St} {r : z_P} {w : Nat} (h : E_b n kd pl wd c u r w) {a : Nat} (ha : E_nw c a) {k : Nat} (hk : k ≠ 329 ∧ k ≠ 395) (x : Int64) : E_b n kd pl wd c (g_setL u k a x) r w :=
  h.kp Z (E_kp.re.pL (ha.ok u) k x) ha.X h.2.2.1 (h.2.2.2.1.same rfl rfl) (Or.inr h.2.2.2.2.1.2) h.2.2.2.2.2.2.1.1 h.2.2.2.2.2.2.1.2 (h.2.2.2.2.2.2.2.kp Z h.2.2.2.1 (fun _ => Nat.le_refl _) (fun b hb _ => E_sm.re.pL k x (ha.ne hb)) h.2.2.2.2.2.1.2.2.1 h.2.2.2.2.2.1.2.2.2 (Nat.le_refl _) (fun p e => ⟨p, e⟩) (fun i hi => by rw [if_pos (show i < g_cnt u 9 from hi), x_L_L, if_neg (fun q => hk.1 q.1.symm)]) (fun i hi => by rw [if_pos (show i < g_cnt u 11 from hi), x_L_L, if_neg (fun q => hk.2 q.1.symm)]) h.2.2.2.2.2.1.1)
theorem E_b.pR (Z : E_cx c) {u : g_St} {r : z_P} {w : Nat} (h : E_b n kd pl wd c u r w) {a : Nat} (ha : E_nw c a) {k : Nat} (hk : k ∉ z_aK) (hk2 : k ≠ 518 ∧ k ≠ 582) (x : Option Nat) : E_b n kd pl wd c (g_setR u k a x) r w :=
  h.kp Z (E_kp.re.pR (ha.ok u) k x) ha.X h.2.2.1 (h.2.2.2.1.pR hk _ _) (Or.inr ⟨by rw [x_R_R, if_neg (fun q => hk2.1 q.1.symm)]; exact h.2.2.2.2.1.2.1, by rw [x_R_R, if_neg (fun q => hk2.2 q.1.symm)]; exact h.2.2.2.2.1.2.2⟩) h.2.2.2.2.2.2.1.1 h.2.2.2.2.2.2.1.2 (h.2.2.2.2.2.2.2.kp Z h.2.2.2.1 (fun _ => Nat.le_refl _) (fun b hb _ => E_sm.re.pR k x (ha.ne hb)) h.2.2.2.2.2.1.2.2.1 h.2.2.2.2.2.1.2.2.2 (Nat.le_refl _) (fun p e => ⟨p, e⟩) (fun i hi => (if_pos hi).symm) (fun i hi => (if_pos hi).symm) h.2.2.2.2.2.1.1)
theorem E_b.sR (Z : E_cx c) {u : g_St} {r : z_P} {w : Nat} (h : E_b n kd pl wd c u r w) {a : Nat} (ha : E_nw c a) (j : Nat) (x : Option Nat) : E_b n kd pl wd c (g_setAR u a j x) r w :=
  h.kp Z (E_kp.re.sR (ha.ok u) j x) ha.X h.2.2.1 (h.2.2.2.1.same rfl rfl) (Or.inr h.2.2.2.2.1.2) h.2.2.2.2.2.2.1.1 h.2.2.2.2.2.2.1.2 (h.2.2.2.2.2.2.2.kp Z h.2.2.2.1 (fun _ => Nat.le_refl _) (fun b hb _ => E_sm.re.sR j x (ha.ne hb)) h.2.2.2.2.2.1.2.2.1 h.2.2.2.2.2.1.2.2.2 (Nat.le_refl _) (fun p e => ⟨p, e⟩) (fun i hi => (if_pos hi).symm) (fun i hi => (if_pos hi).symm) h.2.2.2.2.2.1.1)
theorem E_b.sI (Z : E_cx c) {u : g_St} {r : z_P} {w : Nat} (h : E_b n kd pl wd c u r w) {a : Nat} (ha : E_nw c a) (j : Nat) (x : Int32) : E_b n kd pl wd c (g_setAI u a j x) r w :=
  h.kp Z (E_kp.re.sI (ha.ok u) j x) ha.X h.2.2.1 (h.2.2.2.1.same rfl rfl) (Or.inr h.2.2.2.2.1.2) h.2.2.2.2.2.2.1.1 h.2.2.2.2.2.2.1.2 (h.2.2.2.2.2.2.2.kp Z h.2.2.2.1 (fun _ => Nat.le_refl _) (fun b hb _ => E_sm.re.sI j x (ha.ne hb)) h.2.2.2.2.2.1.2.2.1 h.2.2.2.2.2.1.2.2.2 (Nat.le_refl _) (fun p e => ⟨p, e⟩) (fun i hi => (if_pos hi).symm) (fun i hi => (if_pos hi).symm) h.2.2.2.2.2.1.1)
theorem E_b.sL (Z : E_cx c) {u : g_St} {r : z_P} {w : Nat} (h : E_b n kd pl wd c u r w) {a : Nat} (ha : E_nw c a) (j : Nat) (x : Int64) : E_b n kd pl wd c (g_setAL u a j x) r w :=
  h.kp Z (E_kp.re.sL (ha.ok u) j x) ha.X h.2.2.1 (h.2.2.2.1.same rfl rfl) (Or.inr h.2.2.2.2.1.2) h.2.2.2.2.2.2.1.1 h.2.2.2.2.2.2.1.2 (h.2.2.2.2.2.2.2.kp Z h.2.2.2.1 (fun _ => Nat.le_refl _) (fun b hb _ => E_sm.re.sL j x (ha.ne hb)) h.2.2.2.2.2.1.2.2.1 h.2.2.2.2.2.1.2.2.2 (Nat.le_refl _) (fun p e => ⟨p, e⟩) (fun i hi => (if_pos hi).symm) (fun i hi => (if_pos hi).symm) h.2.2.2.2.2.1.1)
/-- the reader's selection and condition -/
theorem E_b.p2R (Z : E_cx c) {u : g_St} {r : z_P} {w : Nat} (h : E_b n kd pl wd c u r w) {k : Nat} (hk : k = 514 ∨ k = 578) (x : Option Nat) : E_b n kd pl wd c (g_setR u k 2 x) r w := by
  have hq : c.1 ≠ 2 := fun e => by have := Z.1; rw [e] at this; exact absurd this (by decide)
  refine h.kp Z (E_kp.re.p2R (X := []) hk x) (fun a ha => by cases ha) h.2.2.1 (h.2.2.2.1.pR (by rcases hk with e | e <;> rw [e] <;> decide) _ _) (Or.inl (by simp)) h.2.2.2.2.2.2.1.1 h.2.2.2.2.2.2.1.2 (h.2.2.2.2.2.2.2.kp Z h.2.2.2.1 (fun _ => Nat.le_refl _) (fun b hb _ => E_sm.re.pR k x (fun e => by rw [e] at hb; rcases hb with q | q <;> exact absurd q (by decide))) h.2.2.2.2.2.1.2.2.1 h.2.2.2.2.2.1.2.2.2 (Nat.le_refl _) (fun p e => ⟨p, e⟩) (fun i hi => (if_pos hi).symm) (fun i hi => (if_pos hi).symm) h.2.2.2.2.2.1.1)
/-- something is made -/
theorem E_b.mk (Z : E_cx c) {u : g_St} {r : z_P} {w : Nat} (h : E_b n kd pl wd c u r w) {t : Nat} (ht : t < 64 ∧ t ≠ 2 ∧ t ≠ 12 ∧ t ≠ 30) (s m : Nat) {w' : Nat} (h1 : g_cn u + 1 ≤ c.2.2.2.2.1 + 5 * w') (h2 : g_sn u + s ≤ c.2.2.2.2.2 + 150 * w') (l : w ≤ w') : E_b n kd pl wd c (g_mk u t s m) r w' := by
  have ne : ∀ b, g_al u b → b ≠ g_cnt u t * 64 + t := fun b hb e => E_nal ht.1 (e ▸ hb)
  have k : E_kp [] u (g_mk u t s m) := E_kp.re.mk ht.1 ht.2.1 s m
  refine h.kp Z k (fun a ha => by cases ha) ?_ (h.2.2.2.1.mk ht.1 _ _) (Or.inl (by simp)) h1 h2 (h.2.2.2.2.2.2.2.kp Z h.2.2.2.1 k.1 (fun b hb hal => E_sm.re.mk t s m (ne b hal)) h.2.2.2.2.2.1.2.2.1 h.2.2.2.2.2.1.2.2.2 l (fun p e => ⟨p, e⟩) (fun i hi => ?_) (fun i hi => ?_) h.2.2.2.2.2.1.1)
  · have e : ∀ k', g_I (g_mk u t s m) k' 2 = g_I u k' 2 := fun k' => by rw [x_I_mk, if_neg (by omega)]
    have := h.2.2.1
    unfold E_ps at *
    rw [e, e]
    exact this
  · rw [x_L_mk]
    rw [x_cnt_mk] at hi
    by_cases w : i < g_cnt u 9
    · rw [if_pos w, if_neg (ne _ (by rw [E_alc (by decide)]; exact w))]
    · rw [if_neg w]
      by_cases y : 9 = t
      · rw [if_pos y] at hi
        rw [if_pos (by rw [← y]; rw [← y] at hi; omega)]
      · rw [if_neg y] at hi; exact absurd hi w
  · rw [x_L_mk]
    rw [x_cnt_mk] at hi
    by_cases w : i < g_cnt u 11
    · rw [if_pos w, if_neg (ne _ (by rw [E_alc (by decide)]; exact w))]
    · rw [if_neg w]
      by_cases y : 11 = t
      · rw [if_pos y] at hi
        rw [if_pos (by rw [← y]; rw [← y] at hi; omega)]
      · rw [if_neg y] at hi; exact absurd hi w
theorem E_b.new (Z : E_cx c) {u : g_St} {r : z_P} {w : Nat} (h : E_b n kd pl wd c u r w) {t : Nat} (ht : t < 64 ∧ t ≠ 2 ∧ t ≠ 12 ∧ t ≠ 30) : E_nw c (g_cnt u t * 64 + t) := by
  unfold E_nw
  rw [(E_num ht.1).1, (E_num ht.1).2]
  exact ⟨ht.2.2.1, ht.2.2.2, ht.2.1, h.2.2.2.2.2.1.1 t⟩
/-- the room that is there -/
theorem E_b.room (Z : E_cx c) {u : g_St} {r : z_P} {w : Nat} (h : E_b n kd pl wd c u r w) (hw : w ≤ 1270) : g_cn u + 50 ≤ 601024 ∧ g_sn u + 1500 ≤ 7293034 := by
  have := h.2.2.2.2.2.2.1
  have := Z.2.2.2.2.2.1
  have := Z.2.2.2.2.2.2.1
  omega
end
