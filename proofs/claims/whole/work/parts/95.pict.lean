/-! THE REFERENCE'S READER, IN ONE PICTURE -/
def z_H (n : Nat) (kd : Nat → Nat) : Prop := (∀ i, kd i < 40) ∧ n ≤ 400 ∧ ∀ p, p ≤ n → kd p ≠ 38 → p < n
/-- the counters, and the arrays that each one bounds -/
def z_cf : List Nat := [1153, 2177, 2817, 3009, 3073, 3585, 3841]
def z_gp : List (Nat × Nat × Nat) := [(2836, 3073, 1), (2772, 3073, 1), (2900, 3073, 1), (2708, 3009, 1), (2644, 3009, 1), (2516, 2817, 1), (2580, 2817, 1), (3092, 3585, 1), (3156, 3585, 1), (3284, 3841, 1), (3348, 3841, 1), (3412, 3841, 1), (3476, 3841, 1), (3540, 3841, 1), (3604, 3841, 1), (3668, 3841, 3), (2004, 2177, 1), (2068, 2177, 1), (2132, 2177, 1), (2196, 2177, 1), (2260, 2177, 1), (2324, 2177, 1), (2388, 2177, 1), (159, 2177, 1), (2452, 2177, 6), (1236, 1153, 1), (1300, 1153, 1), (1428, 1153, 1), (1492, 1153, 1), (1556, 1153, 1), (1620, 1153, 1), (1684, 1153, 1), (31, 1153, 1), (95, 1153, 1), (1876, 1153, 1), (1940, 1153, 1), (1364, 1153, 3)]
theorem z_gpu : ∀ q ∈ z_gp, ∀ q' ∈ z_gp, q.1 = q'.1 → q = q' := by
  have w : (z_gp.all fun q => z_gp.all fun q' => decide (q.1 = q'.1 → q = q')) = true := by decide +kernel
  intro q hq q' hq'
  exact of_decide_eq_true (List.all_eq_true.mp (List.all_eq_true.mp w q hq) q' hq')
def M_c (u : g_St) (C : Nat → Nat) : Prop := ∀ f ∈ z_cf, g_I u f 1 = Int32.ofNat (C f)
def z_up (C : Nat → Nat) (f v : Nat) : Nat → Nat := fun g => if g = f then v else C g
theorem z_up_e (C : Nat → Nat) (f v : Nat) : z_up C f v f = v := if_pos rfl
theorem z_up_n (C : Nat → Nat) {f g : Nat} (v : Nat) (h : g ≠ f) : z_up C f v g = C g := if_neg h
def z_le (C C' : Nat → Nat) : Prop := ∀ f, C f ≤ C' f
theorem z_le.re {C : Nat → Nat} : z_le C C := fun _ => Nat.le_refl _
theorem z_le.trans {A B C : Nat → Nat} (h : z_le A B) (g : z_le B C) : z_le A C := fun f => Nat.le_trans (h f) (g f)
theorem z_le.up {A B : Nat → Nat} (h : z_le A B) {f v : Nat} (g : A f ≤ v) : z_le A (z_up B f v) := fun x => by
  by_cases w : x = f
  · rw [w, z_up_e]; exact g
  · rw [z_up_n _ _ w]; exact h x
theorem M_c.as {u v : g_St} {C : Nat → Nat} (h : M_c u C) (g : M_as u v) : M_c v C := fun f hf => by
  have w : f ≠ 577 ∧ f ≠ 833 ∧ f ≠ 897 := by
    have w : (z_cf.all fun f => decide (f ≠ 577 ∧ f ≠ 833 ∧ f ≠ 897)) = true := by decide
    exact of_decide_eq_true (List.all_eq_true.mp w f hf)
  rw [g.2 f w.1 w.2.1 w.2.2]; exact h f hf
theorem M_c.same {u v : g_St} {C : Nat → Nat} (h : M_c u C) (g : g_I v = g_I u) : M_c v C := fun f hf => by rw [g]; exact h f hf
theorem M_c.sI {u : g_St} {C : Nat → Nat} (h : M_c u C) (a j : Nat) (x : Int32) : M_c (g_setAI u a j x) C := h
theorem M_c.pI {u : g_St} {C : Nat → Nat} (h : M_c u C) (f v : Nat) : M_c (g_setI u f 1 (Int32.ofNat v)) (z_up C f v) := fun g hg => by
  rw [x_I_I]
  by_cases w : g = f
  · rw [if_pos ⟨w, rfl⟩, w, z_up_e]
  · rw [if_neg (fun q => w q.1), z_up_n _ _ w]; exact h g hg
/-- fields that aren't counters -/
theorem M_c.pO {u : g_St} {C : Nat → Nat} (h : M_c u C) {f : Nat} (hf : f ∉ z_cf) (v : Int32) : M_c (g_setI u f 1 v) C := fun g hg => by
  have w : g ≠ f := fun e => hf (e ▸ hg)
  rw [x_I_I, if_neg (fun q => w q.1)]; exact h g hg
theorem M_c.ex {u v : g_St} {C : Nat → Nat} (h : M_c u C) (l : List (Nat × Nat)) (hl : ∀ q ∈ l, g_I v q.1 1 = Int32.ofNat q.2) (hn : ∀ f ∈ z_cf, (∀ q ∈ l, q.1 ≠ f) → g_I v f 1 = g_I u f 1) : M_c v (l.foldl (fun C q => z_up C q.1 q.2) C) := by
  have gen : ∀ (l : List (Nat × Nat)) (C : Nat → Nat) (f : Nat), ((∀ q ∈ l, q.1 ≠ f) ∧ l.foldl (fun C q => z_up C q.1 q.2) C f = C f) ∨ ∃ q ∈ l, q.1 = f ∧ l.foldl (fun C q => z_up C q.1 q.2) C f = q.2 := by
    intro l
    induction l with
    | nil => intro C f; exact Or.inl ⟨fun q h => (by cases h), rfl⟩
    | cons x l ih =>
      intro C f
      rw [List.foldl_cons]
      rcases ih (z_up C x.1 x.2) f with ⟨a, b⟩ | ⟨q, a, b, c⟩
      · by_cases w : x.1 = f
        · refine Or.inr ⟨x, List.mem_cons_self, w, ?_⟩
          rw [b, ← w, z_up_e]
        · refine Or.inl ⟨fun q hq => ?_, ?_⟩
          · rcases List.mem_cons.mp hq with e | e
            · rw [e]; exact w
            · exact a q e
          · rw [b, z_up_n _ _ (fun e => w e.symm)]
      · exact Or.inr ⟨q, List.mem_cons_of_mem _ a, b, c⟩
  intro f hf
  rcases gen l C f with ⟨a, b⟩ | ⟨q, a, b, c⟩
  · rw [hn f hf a, b]; exact h f hf
  · rw [c, ← b]; exact hl q a
def M_low (u u' : g_St) (C : Nat → Nat) : Prop := ∀ q ∈ z_gp, ∀ j, j < q.2.2 * C q.2.1 → g_AI u' q.1 j = g_AI u q.1 j
theorem M_low.re {u : g_St} {C : Nat → Nat} : M_low u u C := fun _ _ _ _ => rfl
theorem M_low.trans {u v w : g_St} {C C' : Nat → Nat} (h : M_low u v C) (g : M_low v w C') (l : z_le C C') : M_low u w C := fun q hq j hj =>
  (g q hq j (Nat.lt_of_lt_of_le hj (Nat.mul_le_mul_left _ (l _)))).trans (h q hq j hj)
theorem M_low.as {u v : g_St} {C : Nat → Nat} (g : M_as u v) : M_low u v C := fun q _ j _ => by rw [g.1]
theorem M_low.of {u v : g_St} {C : Nat → Nat} {a f k : Nat} (hm : (a, f, k) ∈ z_gp) (h : ∀ j, j < k * C f → g_AI v a j = g_AI u a j) : ∀ q ∈ z_gp, q.1 = a → ∀ j, j < q.2.2 * C q.2.1 → g_AI v q.1 j = g_AI u q.1 j := fun q hq e => by
  have w := z_gpu q hq (a, f, k) hm e
  rw [w]; exact h
theorem M_low.W {wI wA : List Nat} {u v : g_St} {C : Nat → Nat} (h : z_W wI wA u v) (hA : ∀ a ∈ wA, ∀ q ∈ z_gp, q.1 = a → ∀ j, j < q.2.2 * C q.2.1 → g_AI v q.1 j = g_AI u q.1 j) : M_low u v C := fun q hq j hj => by
  by_cases w : q.1 ∈ wA
  · exact hA q.1 w q hq rfl j hj
  · rw [(h.2.2.2.2.2.2.2.2 q.1 w).1]
theorem M_low.sI {u v : g_St} {C : Nat → Nat} (h : M_low u v C) {a f k j : Nat} (hm : (a, f, k) ∈ z_gp) (hj : k * C f ≤ j) (x : Int32) : M_low u (g_setAI v a j x) C := fun q hq i hi => by
  rw [x_AI_AI, if_neg, h q hq i hi]
  intro w
  have e := z_gpu q hq (a, f, k) hm w.1
  rw [e] at hi
  have : i < k * C f := hi
  omega
theorem M_low.pI {u v : g_St} {C : Nat → Nat} (h : M_low u v C) (f : Nat) (x : Int32) : M_low u (g_setI v f 1 x) C := h
/-- one array's cell -/
theorem M_low.at {u v : g_St} {C : Nat → Nat} (h : M_low u v C) {a f k j : Nat} (hm : (a, f, k) ∈ z_gp) (hj : j < k * C f) : g_AI v a j = g_AI u a j := h (a, f, k) hm j hj
theorem M_low.lo {u v : g_St} {C : Nat → Nat} (h : M_low u v C) : M_lo u v (C 3073) (C 3009) := ⟨fun j hj => ⟨h.at (f := 3073) (k := 1) (by decide) (by omega), h.at (f := 3073) (k := 1) (by decide) (by omega), h.at (f := 3073) (k := 1) (by decide) (by omega)⟩, fun j hj => ⟨h.at (f := 3009) (k := 1) (by decide) (by omega), h.at (f := 3009) (k := 1) (by decide) (by omega)⟩⟩
theorem M_low.cb {u v : g_St} {C C' : Nat → Nat} (h : M_low u v C) (l : z_le C C') {c : Nat} (hc : c < C 3841) {b : z_Bs} (m : M_cb u (C 3073) (C 3009) c b) : M_cb v (C' 3073) (C' 3009) c b :=
  m.lo h.lo ⟨h.at (f := 3841) (k := 1) (by decide) (by omega), h.at (f := 3841) (k := 1) (by decide) (by omega), h.at (f := 3841) (k := 1) (by decide) (by omega), h.at (f := 3841) (k := 1) (by decide) (by omega)⟩ (l _) (l _)
theorem M_low.so {u v : g_St} {C : Nat → Nat} (h : M_low u v C) {k t : Nat} (hk : k < C 3585) (m : M_so u k t) : M_so v k t := ⟨by rw [h.at (f := 3585) (k := 1) (by decide) (by omega)]; exact m.1, by rw [h.at (f := 3585) (k := 1) (by decide) (by omega)]; exact m.2⟩
/-- budgets: operands, expressions, conditions, by the place -/
def z_bg (d q : Nat) (C : Nat → Nat) : Prop := 2 * C 3073 ≤ q + d ∧ C 3009 ≤ C 3073 ∧ 4 * C 3841 ≤ q + d
/-! what stands for a condition -/
abbrev z_Co : Type := z_Bs ⊕ (Nat × List z_Bs)
def M_co (u : g_St) (C : Nat → Nat) (c : Nat) (x : z_Co) : Prop := c < C 3841 ∧ match x with
  | .inl b => M_cb u (C 3073) (C 3009) c b
  | .inr y => g_AI u 3284 c = 2 ∧ (∃ k, k < C 3585 ∧ g_AI u 3540 c = Int32.ofNat k ∧ M_so u k y.1) ∧ g_AI u 3604 c = Int32.ofNat y.2.length ∧ y.2.length ≤ 3 ∧ ∀ j, j < y.2.length → ∃ d, d < C 3841 ∧ g_AI u 3668 (3 * c + j) = Int32.ofNat d ∧ M_cb u (C 3073) (C 3009) d (y.2.getD j ([], 0, []))
theorem M_co.low {u v : g_St} {C C' : Nat → Nat} {c : Nat} {x : z_Co} (m : M_co u C c x) (h : M_low u v C) (l : z_le C C') : M_co v C' c x := by
  obtain ⟨m1, m2⟩ := m
  refine ⟨Nat.lt_of_lt_of_le m1 (l _), ?_⟩
  cases x with
  | inl b => exact h.cb l m1 m2
  | inr y =>
    obtain ⟨a1, ⟨k, a2, a3, a4⟩, a5, a6, a7⟩ := m2
    refine ⟨by rw [h.at (f := 3841) (k := 1) (by decide) (by omega)]; exact a1, ⟨k, Nat.lt_of_lt_of_le a2 (l _), by rw [h.at (f := 3841) (k := 1) (by decide) (by omega)]; exact a3, h.so a2 a4⟩, by rw [h.at (f := 3841) (k := 1) (by decide) (by omega)]; exact a5, a6, fun j hj => ?_⟩
    obtain ⟨d, b1, b2, b3⟩ := a7 j hj
    exact ⟨d, Nat.lt_of_lt_of_le b1 (l _), by rw [h.at (f := 3841) (k := 3) (by decide) (by omega)]; exact b2, h.cb l b1 b3⟩
/-! the reader's base -/
def M_b (n : Nat) (kd pl : Nat → Nat) (vl : Nat → Int64) (u : g_St) (r : z_P) : Prop := m_Fix u ∧ z_tkM u n kd pl vl ∧ z_ps u pl n r
section
variable {n : Nat} {kd pl : Nat → Nat} {vl : Nat → Int64}
theorem M_b.sI {u : g_St} {r : z_P} (h : M_b n kd pl vl u r) {a : Nat} (h1 : a ≠ 1108) (h2 : a ≠ 1172) (j : Nat) (x : Int32) : M_b n kd pl vl (g_setAI u a j x) r := ⟨h.1, h.2.1.sI h1 h2 j x, h.2.2.of rfl rfl rfl⟩
theorem M_b.pI {u : g_St} {r : z_P} (h : M_b n kd pl vl u r) {f : Nat} (h1 : f ≠ 833) (h2 : f ≠ 897) (h3 : f ≠ 577) (x : Int32) : M_b n kd pl vl (g_setI u f 1 x) r :=
  ⟨h.1, h.2.1, h.2.2.of (by rw [x_I_I, if_neg (fun q => h1 q.1.symm)]) (by rw [x_I_I, if_neg (fun q => h2 q.1.symm)]) (by rw [x_I_I, if_neg (fun q => h3 q.1.symm)])⟩
theorem b_nd (H : z_H n kd) {u : g_St} {r : z_P} (h : M_b n kd pl vl u r) {k : Nat} (hk : k < 38) : ∃ v u', f_M_need (some 1) (z_km k) u = some (v, u') ∧ M_b n kd pl vl u' (z_ndr kd k r) ∧ M_as u u' ∧ ∀ p, r = .inr p → kd p = k → v = Int32.ofNat p := by
  obtain ⟨v, u', a1, a2, a3, a4, a5, a6⟩ := m_ndr H.1 H.2.1 H.2.2 h.1 h.2.1 h.2.2 hk
  exact ⟨v, u', a1, ⟨a2, a3, a4⟩, a5.as, a6⟩
theorem b_ndS (H : z_H n kd) {u : g_St} {r : z_P} (h : M_b n kd pl vl u r) {k : Nat} (hk : k < 38) {c : Int32} (hc : 100 + c = z_km k) : ∃ u', f_M_needSign (some 1) c u = some ((), u') ∧ M_b n kd pl vl u' (z_ndr kd k r) ∧ M_as u u' := by
  obtain ⟨u', a1, a2, a3, a4, a5⟩ := m_ndS H.1 H.2.1 H.2.2 h.1 h.2.1 h.2.2 hk hc
  exact ⟨u', a1, ⟨a2, a3, a4⟩, a5.as⟩
theorem b_sk (H : z_H n kd) {u : g_St} {r : z_P} (h : M_b n kd pl vl u r) {k : Nat} (hk : k < 38) : ∃ u', f_M_skip (some 1) (z_km k) u = some (z_g (z_skr kd k r).1, u') ∧ M_b n kd pl vl u' (z_skr kd k r).2 ∧ M_as u u' := by
  obtain ⟨u', a1, a2, a3, a4, a5⟩ := m_skr H.1 H.2.1 H.2.2 h.1 h.2.1 h.2.2 hk
  exact ⟨u', a1, ⟨a2, a3, a4⟩, (a5.mono (vI := [577, 833, 897]) (vA := []) (by decide) (by decide)).as⟩
theorem b_skS (H : z_H n kd) {u : g_St} {r : z_P} (h : M_b n kd pl vl u r) {k : Nat} (hk : k < 38) {c : Int32} (hc : 100 + c = z_km k) : ∃ u', f_M_skipSign (some 1) c u = some (z_g (z_skr kd k r).1, u') ∧ M_b n kd pl vl u' (z_skr kd k r).2 ∧ M_as u u' := by
  obtain ⟨u', a1, a2, a3⟩ := b_sk H h hk
  refine ⟨u', ?_, a2, a3⟩
  unfold f_M_skipSign
  rw [x_nn, hc, a1, x_c]
  cases (z_skr kd k r).1 <;> rfl
/-- the turn of a loop: it ends when stuck -/
theorem b_bad {u : g_St} {r : z_P} (h : M_b n kd pl vl u r) : f_M_bad (some 1) u = some (match r with | .inl _ => 1 | .inr _ => 0, u) := by
  cases r with
  | inl q => exact pM_badS h.2.2.1.1
  | inr q => exact pM_bad h.2.2.1.1
theorem b_is (H : z_H n kd) {u : g_St} {p : Nat} (h : M_b n kd pl vl u (.inr p)) {k : Nat} (hk : k < 40) : f_M_is (some 1) (z_km k) u = some (if kd p = k then 1 else 0, u) := by
  rw [pM_is h.1 h.2.1 H.1 H.2.1 h.2.2.2 h.2.2.1.1 h.2.2.1.2 hk]
  by_cases w : kd p = k
  · rw [if_pos w, if_pos w]
  · rw [if_neg w, if_neg w]
theorem z_skr_t {k p : Nat} (h : kd p = k) : z_skr kd k (.inr p) = (true, .inr (p + 1)) := by unfold z_skr; simp only []; rw [if_pos h]
theorem z_skr_f {k p : Nat} (h : kd p ≠ k) : z_skr kd k (.inr p) = (false, .inr p) := by unfold z_skr; simp only []; rw [if_neg h]
theorem z_ndr_t {k p : Nat} (h : kd p = k) : z_ndr kd k (.inr p) = .inr (p + 1) := by unfold z_ndr; simp only []; rw [if_pos h]
theorem z_ndr_ok {k q : Nat} {r : z_P} (h : z_ndr kd k r = .inr q) : ∃ p, r = .inr p ∧ kd p = k ∧ q = p + 1 := by
  cases r with
  | inl x => cases h
  | inr p =>
    unfold z_ndr at h
    simp only [] at h
    by_cases w : kd p = k
    · rw [if_pos w] at h; cases h; exact ⟨p, rfl, w, rfl⟩
    · rw [if_neg w] at h; cases h
theorem z_skr_ok {k q : Nat} {r : z_P} (h : (z_skr kd k r).2 = .inr q) : ∃ p, r = .inr p ∧ ((kd p = k ∧ q = p + 1 ∧ (z_skr kd k r).1 = true) ∨ (kd p ≠ k ∧ q = p ∧ (z_skr kd k r).1 = false)) := by
  cases r with
  | inl x => cases h
  | inr p =>
    by_cases w : kd p = k
    · rw [z_skr_t w] at h ⊢; cases h; exact ⟨p, rfl, Or.inl ⟨w, rfl, rfl⟩⟩
    · rw [z_skr_f w] at h ⊢; cases h; exact ⟨q, rfl, Or.inr ⟨w, rfl, rfl⟩⟩
theorem M_b.le {u : g_St} {p : Nat} (h : M_b n kd pl vl u (.inr p)) : p ≤ n := h.2.2.2
/-- a comparison -/
theorem b_cor (H : z_H n kd) {u : g_St} {p : Nat} (h : M_b n kd pl vl u (.inr p)) {C : Nat → Nat} (hc : M_c u C) (hb : z_bg 0 p C) : ∃ u', f_M_readCondition (some 1) u = some (Int32.ofNat (C 3841), u') ∧ M_b n kd pl vl u' (z_cor kd (.inr p)).2 ∧ z_W [577, 833, 897, 3009, 3073, 3841] [2644, 2708, 2772, 2836, 2900, 3284, 3348, 3412, 3476] u u' ∧ M_low u u' C ∧ ∃ C', M_c u' C' ∧ z_le C C' ∧ (∀ f, f ≠ 3009 → f ≠ 3073 → f ≠ 3841 → C' f = C f) ∧ ∀ q, (z_cor kd (.inr p)).2 = .inr q → z_bg 1 q C' ∧ p + 3 ≤ q ∧ M_co u' C' (C 3841) (.inl (z_cor kd (.inr p)).1) := by
  have hp := h.le
  have hn := H.2.1
  obtain ⟨b1, b2, b3⟩ := hb
  obtain ⟨u', a1, a2, a3, a4, a5, a6, e', m, a7, a8, a9, a10, a11, a12, a13⟩ := m_cor H.1 H.2.1 H.2.2 h.1 h.2.1 h.2.2 (e := C 3009) (o := C 3073) (c := C 3841) (by omega) (by omega) (by omega) (hc _ (by decide)) (hc _ (by decide)) (hc _ (by decide))
  have w := w_M_readCondition _ h.1 a1
  refine ⟨u', a1, ⟨a2, a3, a4⟩, w, M_low.W w (fun a ha => ?_), [(3009, e'), (3073, C 3073 + m), (3841, C 3841 + 1)].foldl (fun C q => z_up C q.1 q.2) C, M_c.ex hc _ (fun q hq => ?_) (fun f hf hq => ?_), ?_, fun f q1 q2 q3 => ?_, fun q hq => ?_⟩
  · simp only [List.mem_cons, List.not_mem_nil, or_false] at ha
    rcases ha with rfl | rfl | rfl | rfl | rfl | rfl | rfl | rfl | rfl
    · exact M_low.of (f := 3009) (k := 1) (by decide) (fun j hj => (a5.2.1 j (by omega)).2)
    · exact M_low.of (f := 3009) (k := 1) (by decide) (fun j hj => (a5.2.1 j (by omega)).1)
    · exact M_low.of (f := 3073) (k := 1) (by decide) (fun j hj => (a5.1 j (by omega)).2.1)
    · exact M_low.of (f := 3073) (k := 1) (by decide) (fun j hj => (a5.1 j (by omega)).1)
    · exact M_low.of (f := 3073) (k := 1) (by decide) (fun j hj => (a5.1 j (by omega)).2.2)
    · exact M_low.of (f := 3841) (k := 1) (by decide) (fun j hj => (a5.2.2 j (by omega)).1)
    · exact M_low.of (f := 3841) (k := 1) (by decide) (fun j hj => (a5.2.2 j (by omega)).2.1)
    · exact M_low.of (f := 3841) (k := 1) (by decide) (fun j hj => (a5.2.2 j (by omega)).2.2.1)
    · exact M_low.of (f := 3841) (k := 1) (by decide) (fun j hj => (a5.2.2 j (by omega)).2.2.2)
  · simp only [List.mem_cons, List.not_mem_nil, or_false] at hq
    rcases hq with rfl | rfl | rfl
    · exact a7
    · exact a10
    · exact a6
  · refine w.2.2.2.2.2.2.2.1 f 1 (fun q => ?_)
    have q2 := q.2
    simp only [List.mem_cons, List.not_mem_nil, or_false] at q2
    rcases q2 with rfl | rfl | rfl | rfl | rfl | rfl
    · revert hf; decide
    · revert hf; decide
    · revert hf; decide
    · exact hq (3009, e') (by simp) rfl
    · exact hq (3073, C 3073 + m) (by simp) rfl
    · exact hq (3841, C 3841 + 1) (by simp) rfl
  · show z_le C (z_up (z_up (z_up C 3009 e') 3073 (C 3073 + m)) 3841 (C 3841 + 1))
    exact ((z_le.re.up (by omega)).up (by omega)).up (by omega)
  · show z_up (z_up (z_up C 3009 e') 3073 (C 3073 + m)) 3841 (C 3841 + 1) f = C f
    rw [z_up_n _ _ q3, z_up_n _ _ q2, z_up_n _ _ q1]
  · have pr := a12.2 p rfl
    rw [hq] at pr
    have pr' : p + 2 * m ≤ q + 1 ∧ p + 3 ≤ q ∧ e' - C 3009 ≤ m := pr
    refine ⟨⟨?_, ?_, ?_⟩, by omega, ?_, a13 q hq⟩
    · show 2 * (C 3073 + m) ≤ q + 1
      omega
    · show e' ≤ C 3073 + m
      omega
    · show 4 * (C 3841 + 1) ≤ q + 1
      omega
    · show C 3841 < C 3841 + 1
      omega
end
