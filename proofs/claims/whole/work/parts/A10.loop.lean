/-! THE ENGINE'S READER: what is made new, loops -/
/-- nothing that was there has changed -/
def E_fr (u v : g_St) : Prop := (∀ t, g_cnt u t ≤ g_cnt v t) ∧ ∀ b, g_al u b → E_sm u v b
theorem E_fr.re {u : g_St} : E_fr u u := ⟨fun _ => Nat.le_refl _, fun _ _ => E_sm.re⟩
theorem E_fr.mk {u v : g_St} (h : E_fr u v) {t : Nat} (ht : t < 64) (n m : Nat) : E_fr u (g_mk v t n m) := by
  refine ⟨fun t' => ?_, fun b hb => (h.2 b hb).mk t n m (fun e => E_nal ht (e ▸ E_alm h.1 hb))⟩
  rw [x_cnt_mk]
  by_cases w : t' = t
  · rw [if_pos w, w]; exact Nat.le_succ_of_le (h.1 t)
  · rw [if_neg w]; exact h.1 t'
theorem E_fr.pI {u v : g_St} (h : E_fr u v) {a : Nat} (ha : ¬ g_al u a) (k : Nat) (x : Int32) : E_fr u (g_setI v k a x) := ⟨h.1, fun b hb => (h.2 b hb).pI k x (fun e => ha (e ▸ hb))⟩
theorem E_fr.pL {u v : g_St} (h : E_fr u v) {a : Nat} (ha : ¬ g_al u a) (k : Nat) (x : Int64) : E_fr u (g_setL v k a x) := ⟨h.1, fun b hb => (h.2 b hb).pL k x (fun e => ha (e ▸ hb))⟩
theorem E_fr.pR {u v : g_St} (h : E_fr u v) {a : Nat} (ha : ¬ g_al u a) (k : Nat) (x : Option Nat) : E_fr u (g_setR v k a x) := ⟨h.1, fun b hb => (h.2 b hb).pR k x (fun e => ha (e ▸ hb))⟩
theorem E_fr.kp {u v : g_St} (h : E_fr u v) (h2 : g_al u 2) (X : List Nat) : E_kp X u v := ⟨h.1, fun a h1 _ _ _ _ => h.2 a h1, fun k _ _ => ((h.2 2 h2).1 k).1, fun k _ _ => ((h.2 2 h2).1 k).2.2⟩
section
variable {n : Nat} {kd pl : Nat → Nat} {wd : Nat → Int64} {c : z_Cx}
theorem E_b.a2 (Z : E_cx c) {u : g_St} {r : z_P} {w : Nat} (h : E_b n kd pl wd c u r w) : g_al u 2 := by
  show 0 < g_cnt u 2
  have := h.2.2.2.2.2.1.1 2
  have := Z.2.2.2.2.2.2.2.2.1
  omega
theorem E_b.fr (Z : E_cx c) {u v : g_St} {r : z_P} {w w' : Nat} (h : E_b n kd pl wd c u r w) (f : E_fr u v) (ho : z_Ok v) (h9 : g_cnt v 9 = g_cnt u 9) (h11 : g_cnt v 11 = g_cnt u 11) (l : w ≤ w') (r1 : g_cn v ≤ c.2.2.2.2.1 + 5 * w') (r2 : g_sn v ≤ c.2.2.2.2.2 + 150 * w') : E_b n kd pl wd c v r w' := by
  have a2 := h.a2 Z
  refine h.kp Z (f.kp a2 []) (fun a ha => by cases ha) ?_ ho (Or.inl (by simp)) r1 r2 (h.2.2.2.2.2.2.2.kp Z h.2.2.2.1 f.1 (fun b _ hal => f.2 b hal) h.2.2.2.2.2.1.2.2.1 h.2.2.2.2.2.1.2.2.2 l (fun p e => ⟨p, e⟩) (fun i hi => ?_) (fun i hi => ?_) h.2.2.2.2.2.1.1)
  · have e : ∀ k', g_I v k' 2 = g_I u k' 2 := fun k' => ((f.2 2 a2).1 k').1
    have := h.2.2.1
    unfold E_ps at *
    rw [e, e]
    exact this
  · rw [h9] at hi
    rw [if_pos hi]
    exact ((f.2 _ (by rw [E_alc (by decide)]; exact hi)).1 _).2.1
  · rw [h11] at hi
    rw [if_pos hi]
    exact ((f.2 _ (by rw [E_alc (by decide)]; exact hi)).1 _).2.1
/-- loops of the engine's reader -/
theorem a_loop {α β : Type} (K : Nat → Int32 → Nat → g_St → Option β) (E : g_St → Option β) (ac : g_St → Option (Int32 × g_St)) (sep : Nat) (g : Nat → α × z_P) (D : Nat) (J' : Nat → List α → g_St → Prop) (J : z_P → List α → g_St → Prop)
    (hE : ∀ f i s, K (f + 1) 0 i s = E s)
    (hs : ∀ r l s, J r l s → ∃ t, ac s = some (z_g (z_skr kd sep r).1, t) ∧ ((z_skr kd sep r).1 = false → J r l t) ∧ ∀ q, r = .inr q → kd q = sep → J' (q + 1) l t)
    (turn : ∀ p l u f, l.length ≤ D → J' p l u → ∃ s, K (f + 1) 1 l.length u = (if D ≤ l.length then K f 0 (l.length + 1) s else g_c (ac s) fun i t => if i = 0 then K f 0 (l.length + 1) t else K f 1 (l.length + 1) t) ∧ J (g p).2 (l ++ [(g p).1]) s) :
    ∀ d p l u f, l.length + d = D → d + 1 < f → J' p l u → ∃ u', K f 1 l.length u = E u' ∧ J (z_lst kd sep g d p).2 (l ++ (z_lst kd sep g d p).1) u' ∧ (z_lst kd sep g d p).1.length ≤ d + 1 := by
  intro d
  induction d with
  | zero =>
    intro p l u f h1 h2 h3
    obtain ⟨f, rfl⟩ : ∃ m, f = m + 2 := ⟨f - 2, by omega⟩
    obtain ⟨s, a1, a2⟩ := turn p l u (f + 1) (by omega) h3
    rw [if_pos (by omega), hE] at a1
    exact ⟨s, a1, a2, Nat.le_refl _⟩
  | succ d ih =>
    intro p l u f h1 h2 h3
    obtain ⟨f, rfl⟩ : ∃ m, f = m + 2 := ⟨f - 2, by omega⟩
    obtain ⟨s, a1, a2⟩ := turn p l u (f + 1) (by omega) h3
    obtain ⟨t, b1, b2, b3⟩ := hs _ _ s a2
    rw [if_neg (by omega), b1, x_c] at a1
    cases hz : (g p).2 with
    | inl q =>
      have e : z_lst kd sep g (d + 1) p = ([(g p).1], .inl q) := by rw [z_lst, hz]
      rw [hz] at b2 a1
      rw [if_pos (show z_g (z_skr kd sep (.inl q)).1 = 0 from rfl), hE] at a1
      rw [e]
      exact ⟨t, a1, b2 rfl, by show 1 ≤ _; omega⟩
    | inr q =>
      by_cases w : kd q = sep
      · have e : z_lst kd sep g (d + 1) p = ((g p).1 :: (z_lst kd sep g d (q + 1)).1, (z_lst kd sep g d (q + 1)).2) := by rw [z_lst, hz]; simp only []; rw [if_pos w]
        rw [hz, z_skr_t w, if_neg (show ¬ z_g (true, (.inr (q + 1) : z_P)).1 = 0 from (show ¬ z_g true = 0 by decide))] at a1
        have ln : (l ++ [(g p).1]).length = l.length + 1 := by rw [List.length_append, List.length_singleton]
        obtain ⟨u', c1, c2, c3⟩ := ih (q + 1) (l ++ [(g p).1]) t (f + 1) (by rw [ln]; omega) (by omega) (b3 q hz w)
        rw [ln] at c1
        rw [e]
        refine ⟨u', a1.trans c1, ?_, by show (z_lst kd sep g d (q + 1)).1.length + 1 ≤ _; omega⟩
        rw [List.append_assoc] at c2
        exact c2
      · have e : z_lst kd sep g (d + 1) p = ([(g p).1], .inr q) := by rw [z_lst, hz]; simp only []; rw [if_neg w]
        rw [hz, z_skr_f w] at b2
        rw [hz, z_skr_f w, if_pos (show z_g (false, (.inr q : z_P)).1 = 0 from rfl), hE] at a1
        rw [e]
        exact ⟨t, a1, b2 rfl, by show 1 ≤ _; omega⟩
/-- a condition is made -/
theorem a_newc (Z : E_cx c) {u : g_St} {r : z_P} {w : Nat} (h : E_b n kd pl wd c u r w) (hw : w ≤ 1265) : ∃ s, (∀ {α : Type} (F : Option Nat → g_St → Option α), (g_new u 10 7 fun p1 s2 => g_c (g_nn p1 (f_Co_init p1 s2)) fun _ s4 => F p1 s4) = F (some (g_cnt u 10 * 64 + 10)) s) ∧ E_b n kd pl wd c s r (w + 1) ∧ E_fr u s ∧ E_ct [10, 28] u s ∧ g_cnt s 10 = g_cnt u 10 + 1 ∧ g_cnt s 28 = g_cnt u 28 + 1 ∧ (∀ k, g_R s k (g_cnt u 10 * 64 + 10) = if k = 266 then some (g_cnt u 28 * 64 + 28) else if k = 10 then some 2509 else none) ∧ (∀ k, g_I s k (g_cnt u 10 * 64 + 10) = 0) ∧ g_ln s (g_cnt u 28 * 64 + 28) = 3 ∧ ∀ m, g_AR s (g_cnt u 28 * 64 + 28) m = none := by
  have rm := h.room Z (by omega)
  obtain ⟨co, hco⟩ : ∃ co, co = g_cnt u 10 * 64 + 10 := ⟨_, rfl⟩
  obtain ⟨A, hA⟩ : ∃ A, A = g_cnt u 28 * 64 + 28 := ⟨_, rfl⟩
  obtain ⟨s1, e1⟩ : ∃ s1, s1 = g_mk u 10 7 0 := ⟨_, rfl⟩
  obtain ⟨s2, e2⟩ : ∃ s2, s2 = g_setR s1 10 co (some 2509) := ⟨_, rfl⟩
  obtain ⟨s, es⟩ : ∃ s, s = g_setR (g_mk s2 28 3 3) 266 co (some A) := ⟨_, rfl⟩
  have c2 : ∀ t, g_cnt s2 t = if t = 10 then g_cnt u 10 + 1 else g_cnt u t := fun t => by rw [e2, e1]; exact x_cnt_mk u 10 7 0 t
  have A2 : g_cnt s2 28 * 64 + 28 = A := by rw [c2, if_neg (by decide), hA]
  have cs : ∀ t, g_cnt s t = if t = 28 then g_cnt u 28 + 1 else if t = 10 then g_cnt u 10 + 1 else g_cnt u t := fun t => by
    rw [es]
    show g_cnt (g_mk s2 28 3 3) t = _
    rw [x_cnt_mk, c2, c2]
    by_cases w : t = 28
    · rw [if_pos w, if_pos w, if_neg (by decide)]
    · rw [if_neg w, if_neg w]
  have nco : ¬ g_al u co := by rw [hco]; exact E_nal (by decide)
  have fr : E_fr u s := by rw [es, e2, e1]; exact (((E_fr.re.mk (by decide) 7 0).pR nco _ _).mk (by decide) 3 3).pR nco _ _
  have ini : f_Co_init (some co) s1 = some ((), s) := by
    unfold f_Co_init
    rw [x_nn, x_pR, ← e2, show (3 : Int32) = Int32.ofNat 3 from rfl, x_newA (by decide) (by rw [e2, e1]; show g_cn u + 1 < _; omega) (by rw [e2, e1]; show g_sn u + 7 + 3 ≤ _; omega), A2, x_pR, ← es]
  have o1 : z_Ok s1 := by rw [e1]; exact h.2.2.2.1.mk (by decide) _ _
  have os : z_Ok s := (v_Co_init (u := s1) (some co) s1 z_V.re ini).2.2.2.2 o1
  rw [← hco, ← hA]
  refine ⟨s, fun F => ?_, ?_, fr, fun t h1 h2 => ?_, ?_, ?_, fun k => ?_, fun k => ?_, ?_, fun m => ?_⟩
  · rw [x_new (by omega) (by omega), ← hco, ← e1, x_nn, ini, x_c]
  · have := h.2.2.2.2.2.2.1
    refine h.fr Z fr os (by rw [cs, if_neg (by decide), if_neg (by decide)]) (by rw [cs, if_neg (by decide), if_neg (by decide)]) (by omega) ?_ ?_
    · rw [es, e2, e1]; show g_cn u + 1 + 1 ≤ _; omega
    · rw [es, e2, e1]; show g_sn u + 7 + 3 ≤ _; omega
  · rw [cs, if_neg (fun e => h1 (by rw [e]; decide)), if_neg (fun e => h1 (by rw [e]; decide))]
  · rw [cs, if_neg (by decide), if_pos rfl]
  · rw [cs, if_pos rfl]
  · have ne : co ≠ A := by omega
    rw [es, x_R_R]
    show (if _ then _ else g_R (g_mk s2 28 3 3) k co) = _
    rw [x_R_mk, A2, if_neg ne, e2, x_R_R, e1, x_R_mk, if_pos hco]
    by_cases y1 : k = 266
    · rw [if_pos ⟨y1, rfl⟩, if_pos y1]
    · rw [if_neg (fun q => y1 q.1), if_neg y1]
      by_cases y2 : k = 10
      · rw [if_pos ⟨y2, rfl⟩, if_pos y2]
      · rw [if_neg (fun q => y2 q.1), if_neg y2]
  · have ne : co ≠ A := by omega
    rw [es]
    show g_I (g_mk s2 28 3 3) k co = 0
    rw [x_I_mk, A2, if_neg ne, e2, e1]
    show g_I (g_mk u 10 7 0) k co = 0
    rw [x_I_mk, if_pos hco]
  · rw [es]
    show g_ln (g_mk s2 28 3 3) A = 3
    rw [x_ln_mk, A2, if_pos rfl]
  · rw [es]
    show g_AR (g_mk s2 28 3 3) A m = none
    rw [x_AR_mk, A2, if_pos rfl]
end
