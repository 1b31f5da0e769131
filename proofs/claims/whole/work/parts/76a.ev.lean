/-! FRAMES OF THE ENGINE: what each of its functions may write -/
/-- the fields that hold arrays of their own -/
def z_aK : List Nat := [0, 2, 130, 194, 258, 4, 68, 132, 196, 260, 324, 388, 69, 133, 197, 6, 262, 199, 263, 647, 136, 200, 392, 520, 266, 76]
def z_kd (k : Nat) : Nat := if k = 0 ∨ k = 4 then 29 else if k = 2 then 22 else if k = 130 ∨ k = 200 then 23 else if k = 194 ∨ k = 68 ∨ k = 132 ∨ k = 388 ∨ k = 133 ∨ k = 197 ∨ k = 263 then 20 else if k = 258 ∨ k = 196 ∨ k = 260 ∨ k = 324 ∨ k = 69 ∨ k = 199 then 21 else if k = 6 then 24 else if k = 647 then 25 else if k = 262 ∨ k = 136 then 26 else if k = 392 then 27 else if k = 520 ∨ k = 266 then 28 else 30
/-- the arrays of the engine's fields: they are there, of their kind, none of the reference's, each of one field -/
def z_Ok (u : g_St) : Prop := (∀ a, a ∈ m_arr ∨ a = 1237 ∨ a = 30 → g_al u a) ∧ ∀ k ∈ z_aK, ∀ c a, g_R u k c = some a → g_al u a ∧ a % 64 = z_kd k ∧ a ∉ m_arr ∧ a ≠ 1237 ∧ ∀ k' ∈ z_aK, ∀ c', g_R u k' c' = some a → a = 30 ∨ (k' = k ∧ c' = c)
def z_own (wA : List Nat) (u : g_St) (x : Nat) : Prop := ∃ k ∈ wA, ∃ c, g_R u k c = some x ∧ (k = 76 → x ≠ 30)
/-- only fields of these keys, arrays of these fields, and the object b are written, of what was there -/
def z_V (q : Bool) (wK wA : List Nat) (b : Option Nat) (u u' : g_St) : Prop :=
  ((∀ t, g_cnt u t ≤ g_cnt u' t) ∧ g_cn u ≤ g_cn u' ∧ g_sn u ≤ g_sn u' ∧ (q = true → g_cnt u' = g_cnt u ∧ g_cn u' = g_cn u ∧ g_sn u' = g_sn u)) ∧
  (∀ k a, g_al u a → k ∉ wK → b ≠ some a → g_I u' k a = g_I u k a ∧ g_L u' k a = g_L u k a ∧ g_R u' k a = g_R u k a) ∧
  (∀ a, g_al u a → g_ln u' a = g_ln u a ∧ (¬ z_own wA u a → g_AI u' a = g_AI u a ∧ g_AL u' a = g_AL u a ∧ g_AR u' a = g_AR u a)) ∧
  (∀ k ∈ z_aK, ∀ c a, g_R u' k c = some a → g_al u a → g_R u k c = some a ∨ (k = 76 ∧ a = 30)) ∧ (z_Ok u → z_Ok u')
theorem z_V.al {q : Bool} {wK wA : List Nat} {b : Option Nat} {u v : g_St} (h : z_V q wK wA b u v) {a : Nat} (ha : g_al u a) : g_al v a := Nat.lt_of_lt_of_le ha (h.1.1 _)
theorem z_V.re {q : Bool} {wK wA : List Nat} {b : Option Nat} {u : g_St} : z_V q wK wA b u u := ⟨⟨fun _ => Nat.le_refl _, Nat.le_refl _, Nat.le_refl _, fun _ => ⟨Eq.refl _, Eq.refl _, Eq.refl _⟩⟩, fun _ _ _ _ _ => ⟨Eq.refl _, Eq.refl _, Eq.refl _⟩, fun _ _ => ⟨Eq.refl _, fun _ => ⟨Eq.refl _, Eq.refl _, Eq.refl _⟩⟩, fun _ _ _ _ h _ => Or.inl h, id⟩
theorem z_V.back {q : Bool} {wK wA : List Nat} {b : Option Nat} {u v : g_St} (h : z_V q wK wA b u v) (hA : ∀ k ∈ wA, k ∈ z_aK) {a : Nat} (ha : g_al u a) (ho : z_own wA v a) : z_own wA u a := by
  obtain ⟨k, hk, c, e, h7⟩ := ho
  rcases h.2.2.2.1 k (hA k hk) c a e ha with q | ⟨q1, q2⟩
  · exact ⟨k, hk, c, q, h7⟩
  · exact absurd q2 (h7 q1)
theorem z_V.transI {q : Bool} {wK wA : List Nat} {b p : Option Nat} {u v w : g_St} (h : z_V q wK wA b u v) (hA : ∀ k ∈ wA, k ∈ z_aK) (hp : ∀ x, p = some x → b = some x ∨ ¬ g_al u x) (g : z_V q wK wA p v w) : z_V q wK wA b u w := by
  refine ⟨⟨fun t => Nat.le_trans (h.1.1 t) (g.1.1 t), Nat.le_trans h.1.2.1 g.1.2.1, Nat.le_trans h.1.2.2.1 g.1.2.2.1, fun e => ⟨(g.1.2.2.2 e).1.trans (h.1.2.2.2 e).1, (g.1.2.2.2 e).2.1.trans (h.1.2.2.2 e).2.1, (g.1.2.2.2 e).2.2.trans (h.1.2.2.2 e).2.2⟩⟩, fun k a ha hk hb => ?_, fun a ha => ?_, fun k hk c a e ha => ?_, fun z => g.2.2.2.2 (h.2.2.2.2 z)⟩
  · obtain ⟨a1, a2, a3⟩ := h.2.1 k a ha hk hb
    obtain ⟨b1, b2, b3⟩ := g.2.1 k a (h.al ha) hk (fun e => (hp a e).elim hb (fun q => q ha))
    exact ⟨b1.trans a1, b2.trans a2, b3.trans a3⟩
  · obtain ⟨l1, k1⟩ := h.2.2.1 a ha
    obtain ⟨l2, k2⟩ := g.2.2.1 a (h.al ha)
    refine ⟨l2.trans l1, fun ho => ?_⟩
    obtain ⟨a1, a2, a3⟩ := k1 ho
    obtain ⟨b1, b2, b3⟩ := k2 (fun q => ho (h.back hA ha q))
    exact ⟨b1.trans a1, b2.trans a2, b3.trans a3⟩
  · rcases g.2.2.2.1 k hk c a e (h.al ha) with q | q
    · exact h.2.2.2.1 k hk c a q ha
    · exact Or.inr q
theorem z_V.trans {q : Bool} {wK wA : List Nat} {b : Option Nat} {u v w : g_St} (h : z_V q wK wA b u v) (hA : ∀ k ∈ wA, k ∈ z_aK) (g : z_V q wK wA b v w) : z_V q wK wA b u w := h.transI hA (fun _ e => Or.inl e) g
theorem z_V.mono {q q' : Bool} {wK wA vK vA : List Nat} {b b' : Option Nat} {u v : g_St} (h : z_V q wK wA b u v) (hq : q' = true → q = true) (k1 : ∀ x ∈ wK, x ∈ vK) (k2 : ∀ x ∈ wA, x ∈ vA) (hb : b = none ∨ b = b') : z_V q' vK vA b' u v :=
  ⟨⟨h.1.1, h.1.2.1, h.1.2.2.1, fun e => h.1.2.2.2 (hq e)⟩, fun k a ha hk he => h.2.1 k a ha (fun q => hk (k1 k q)) (hb.elim (fun e q => by rw [e] at q; cases q) (fun e => by rw [e]; exact he)), fun a ha => ⟨(h.2.2.1 a ha).1, fun ho => (h.2.2.1 a ha).2 (fun w => ho (by
    obtain ⟨k, hk, c, e, h7⟩ := w
    exact ⟨k, k2 k hk, c, e, h7⟩))⟩, h.2.2.2⟩
theorem z_V.own {q : Bool} {wK wA : List Nat} {b : Option Nat} {u s : g_St} (h : z_V q wK wA b u s) {k c x : Nat} (hk : k ∈ wA) (hK : k ∈ z_aK) (h7 : k ≠ 76) (e : g_R s k c = some x) : g_al u x → z_own wA u x := fun ha => by
  rcases h.2.2.2.1 k hK c x e ha with q | ⟨q, _⟩
  · exact ⟨k, hk, c, q, fun z => absurd z h7⟩
  · exact absurd q h7
theorem z_V.pI {q : Bool} {wK wA : List Nat} {b : Option Nat} {u s : g_St} (h : z_V q wK wA b u s) {k a : Nat} (v : Int32) (hk : k ∈ wK ∨ b = some a) : z_V q wK wA b u (g_setI s k a v) := by
  refine ⟨h.1, fun k' a' ha hk' hb => ?_, h.2.2.1, h.2.2.2⟩
  obtain ⟨h1, h2, h3⟩ := h.2.1 k' a' ha hk' hb
  refine ⟨?_, ?_, h3⟩
  · rw [x_I_I, if_neg (fun w => hk.elim (fun q => hk' (by rw [w.1]; exact q)) (fun q => hb (by rw [w.2]; exact q)))]; exact h1
  · exact h2
theorem z_V.pL {q : Bool} {wK wA : List Nat} {b : Option Nat} {u s : g_St} (h : z_V q wK wA b u s) {k a : Nat} (v : Int64) (hk : k ∈ wK ∨ b = some a) : z_V q wK wA b u (g_setL s k a v) := by
  refine ⟨h.1, fun k' a' ha hk' hb => ?_, h.2.2.1, h.2.2.2⟩
  obtain ⟨h1, h2, h3⟩ := h.2.1 k' a' ha hk' hb
  refine ⟨?_, ?_, h3⟩
  · exact h1
  · rw [x_L_L, if_neg (fun w => hk.elim (fun q => hk' (by rw [w.1]; exact q)) (fun q => hb (by rw [w.2]; exact q)))]; exact h2
theorem z_V.pR {q : Bool} {wK wA : List Nat} {b : Option Nat} {u s : g_St} (h : z_V q wK wA b u s) {k a : Nat} (v : Option Nat) (hk : k ∈ wK ∨ b = some a) (hv : k ∉ z_aK) : z_V q wK wA b u (g_setR s k a v) := by
  have hne : ∀ k' ∈ z_aK, ∀ c, g_R (g_setR s k a v) k' c = g_R s k' c := fun k' hK c => by
    rw [x_R_R, if_neg (fun w => hv (by rw [← w.1]; exact hK))]
  refine ⟨h.1, fun k' a' ha hk' hb => ?_, h.2.2.1, fun k' hK c x e hx => ?_, fun z => ?_⟩
  · obtain ⟨h1, h2, h3⟩ := h.2.1 k' a' ha hk' hb
    refine ⟨h1, h2, ?_⟩
    rw [x_R_R, if_neg (fun w => hk.elim (fun q => hk' (by rw [w.1]; exact q)) (fun q => hb (by rw [w.2]; exact q)))]
    exact h3
  · rw [hne k' hK c] at e
    exact h.2.2.2.1 k' hK c x e hx
  · obtain ⟨z1, z2⟩ := h.2.2.2.2 z
    refine ⟨z1, fun k' hK c x e => ?_⟩
    rw [hne k' hK c] at e
    obtain ⟨q1, q2, q3, q4, q5⟩ := z2 k' hK c x e
    refine ⟨q1, q2, q3, q4, fun k2 hK2 c2 e2 => ?_⟩
    rw [hne k2 hK2 c2] at e2
    exact q5 k2 hK2 c2 e2
/-- a field gets its array, just made -/
theorem z_V.pRn {q : Bool} {wK wA : List Nat} {b : Option Nat} {u s : g_St} (h : z_V q wK wA b u s) {k a : Nat} (v : Option Nat) (hk : k ∈ wK ∨ b = some a) (hv : ∀ x, v = some x → ¬ g_al u x) (hn : z_Ok u → ∀ x, v = some x → g_al s x ∧ x % 64 = z_kd k ∧ x ∉ m_arr ∧ x ≠ 1237 ∧ ∀ k' ∈ z_aK, ∀ c, g_R s k' c ≠ some x) : z_V q wK wA b u (g_setR s k a v) := by
  refine ⟨h.1, fun k' a' ha hk' hb => ?_, h.2.2.1, fun k' hK c x e hx => ?_, fun z => ?_⟩
  · obtain ⟨h1, h2, h3⟩ := h.2.1 k' a' ha hk' hb
    refine ⟨h1, h2, ?_⟩
    rw [x_R_R, if_neg (fun w => hk.elim (fun q => hk' (by rw [w.1]; exact q)) (fun q => hb (by rw [w.2]; exact q)))]
    exact h3
  · rw [x_R_R] at e
    by_cases w : k' = k ∧ c = a
    · rw [if_pos w] at e
      exact absurd hx (hv x e)
    · rw [if_neg w] at e
      exact h.2.2.2.1 k' hK c x e hx
  · have zs := h.2.2.2.2 z
    refine ⟨zs.1, fun k' hK c x e => ?_⟩
    rw [x_R_R] at e
    by_cases w : k' = k ∧ c = a
    · rw [if_pos w] at e
      obtain ⟨n1, n2, n3, n4, n5⟩ := hn z x e
      refine ⟨n1, by rw [w.1]; exact n2, n3, n4, fun k2 hK2 c2 e2 => ?_⟩
      rw [x_R_R] at e2
      by_cases w2 : k2 = k ∧ c2 = a
      · exact Or.inr ⟨w2.1.trans w.1.symm, w2.2.trans w.2.symm⟩
      · rw [if_neg w2] at e2
        exact absurd e2 (n5 k2 hK2 c2)
    · rw [if_neg w] at e
      obtain ⟨q1, q2, q3, q4, q5⟩ := zs.2 k' hK c x e
      refine ⟨q1, q2, q3, q4, fun k2 hK2 c2 e2 => ?_⟩
      rw [x_R_R] at e2
      by_cases w2 : k2 = k ∧ c2 = a
      · rw [if_pos w2] at e2
        exact absurd e ((hn z x e2).2.2.2.2 k' hK c)
      · rw [if_neg w2] at e2
        exact q5 k2 hK2 c2 e2
theorem z_V.pR30 {q : Bool} {wK wA : List Nat} {b : Option Nat} {u s : g_St} (h : z_V q wK wA b u s) {a : Nat} (hk : 76 ∈ wK ∨ b = some a) : z_V q wK wA b u (g_setR s 76 a (some 30)) := by
  refine ⟨h.1, fun k' a' ha hk' hb => ?_, h.2.2.1, fun k' hK c x e hx => ?_, fun z => ?_⟩
  · obtain ⟨h1, h2, h3⟩ := h.2.1 k' a' ha hk' hb
    refine ⟨h1, h2, ?_⟩
    rw [x_R_R, if_neg (fun w => hk.elim (fun q => hk' (by rw [w.1]; exact q)) (fun q => hb (by rw [w.2]; exact q)))]
    exact h3
  · rw [x_R_R] at e
    by_cases w : k' = 76 ∧ c = a
    · rw [if_pos w] at e
      exact Or.inr ⟨w.1, (Option.some.inj e).symm⟩
    · rw [if_neg w] at e
      exact h.2.2.2.1 k' hK c x e hx
  · have zs := h.2.2.2.2 z
    refine ⟨zs.1, fun k' hK c x e => ?_⟩
    rw [x_R_R] at e
    by_cases w : k' = 76 ∧ c = a
    · rw [if_pos w] at e
      have ex := (Option.some.inj e).symm
      subst ex
      exact ⟨zs.1 30 (Or.inr (Or.inr rfl)), by rw [w.1]; decide, by decide, by decide, fun _ _ _ _ => Or.inl (Eq.refl 30)⟩
    · rw [if_neg w] at e
      obtain ⟨q1, q2, q3, q4, q5⟩ := zs.2 k' hK c x e
      refine ⟨q1, q2, q3, q4, fun k2 hK2 c2 e2 => ?_⟩
      rw [x_R_R] at e2
      by_cases w2 : k2 = 76 ∧ c2 = a
      · rw [if_pos w2] at e2
        exact Or.inl (Option.some.inj e2).symm
      · rw [if_neg w2] at e2
        exact q5 k2 hK2 c2 e2
theorem z_V.sAI {q : Bool} {wK wA : List Nat} {b : Option Nat} {u s : g_St} (h : z_V q wK wA b u s) {x : Nat} (hx : g_al u x → z_own wA u x) (j : Nat) (v : Int32) : z_V q wK wA b u (g_setAI s x j v) := by
  refine ⟨h.1, h.2.1, fun a ha => ⟨(h.2.2.1 a ha).1, fun ho => ?_⟩, h.2.2.2⟩
  obtain ⟨q1, q2, q3⟩ := (h.2.2.1 a ha).2 ho
  exact ⟨by
    funext i
    rw [x_AI_AI, if_neg (fun w => ho (by rw [w.1]; exact hx (by rw [← w.1]; exact ha)))]
    exact congrFun q1 i, q2, q3⟩
theorem z_V.sAL {q : Bool} {wK wA : List Nat} {b : Option Nat} {u s : g_St} (h : z_V q wK wA b u s) {x : Nat} (hx : g_al u x → z_own wA u x) (j : Nat) (v : Int64) : z_V q wK wA b u (g_setAL s x j v) := by
  refine ⟨h.1, h.2.1, fun a ha => ⟨(h.2.2.1 a ha).1, fun ho => ?_⟩, h.2.2.2⟩
  obtain ⟨q1, q2, q3⟩ := (h.2.2.1 a ha).2 ho
  exact ⟨q1, by
    funext i
    rw [x_AL_AL, if_neg (fun w => ho (by rw [w.1]; exact hx (by rw [← w.1]; exact ha)))]
    exact congrFun q2 i, q3⟩
theorem z_V.sAR {q : Bool} {wK wA : List Nat} {b : Option Nat} {u s : g_St} (h : z_V q wK wA b u s) {x : Nat} (hx : g_al u x → z_own wA u x) (j : Nat) (v : Option Nat) : z_V q wK wA b u (g_setAR s x j v) := by
  refine ⟨h.1, h.2.1, fun a ha => ⟨(h.2.2.1 a ha).1, fun ho => ?_⟩, h.2.2.2⟩
  obtain ⟨q1, q2, q3⟩ := (h.2.2.1 a ha).2 ho
  exact ⟨q1, q2, by
    funext i
    rw [x_AR_AR, if_neg (fun w => ho (by rw [w.1]; exact hx (by rw [← w.1]; exact ha)))]
    exact congrFun q3 i⟩
theorem z_V.mk {wK wA : List Nat} {b : Option Nat} {u s : g_St} (h : z_V false wK wA b u s) (t n m : Nat) (ht : t < 64) : z_V false wK wA b u (g_mk s t n m) ∧ ¬ g_al u (g_cnt s t * 64 + t) := by
  have hf : ∀ a, g_al u a → a ≠ g_cnt s t * 64 + t := fun a ha e => by
    have := h.al ha
    rw [e] at this
    unfold g_al at this
    rw [show (g_cnt s t * 64 + t) % 64 = t by omega] at this
    omega
  refine ⟨⟨⟨fun t' => ?_, Nat.le_trans h.1.2.1 (Nat.le_succ _), Nat.le_trans h.1.2.2.1 (Nat.le_add_right _ _), fun e => (by cases e)⟩, fun k a ha hk hb => ?_, fun a ha => ?_, fun k hK c x e hx => ?_, fun z => ?_⟩, fun q => hf _ q (Eq.refl _)⟩
  · rw [x_cnt_mk]
    by_cases e : t' = t
    · rw [if_pos e, e]
      exact Nat.le_succ_of_le (h.1.1 t)
    · rw [if_neg e]
      exact h.1.1 t'
  · obtain ⟨h1, h2, h3⟩ := h.2.1 k a ha hk hb
    rw [x_I_mk, x_L_mk, x_R_mk, if_neg (hf a ha), if_neg (hf a ha), if_neg (hf a ha)]
    exact ⟨h1, h2, h3⟩
  · obtain ⟨h1, h2⟩ := h.2.2.1 a ha
    refine ⟨by rw [x_ln_mk, if_neg (hf a ha)]; exact h1, fun ho => ?_⟩
    obtain ⟨q1, q2, q3⟩ := h2 ho
    refine ⟨?_, ?_, ?_⟩
    · funext i
      rw [x_AI_mk, if_neg (hf a ha)]
      exact congrFun q1 i
    · funext i
      rw [x_AL_mk, if_neg (hf a ha)]
      exact congrFun q2 i
    · funext i
      rw [x_AR_mk, if_neg (hf a ha)]
      exact congrFun q3 i
  · rw [x_R_mk] at e
    by_cases w : c = g_cnt s t * 64 + t
    · rw [if_pos w] at e
      cases e
    · rw [if_neg w] at e
      exact h.2.2.2.1 k hK c x e hx
  · obtain ⟨z1, z2⟩ := h.2.2.2.2 z
    have al : ∀ a, g_al s a → g_al (g_mk s t n m) a := fun a ha => by
      unfold g_al at ha ⊢
      rw [x_cnt_mk]
      by_cases e : a % 64 = t
      · rw [if_pos e]; rw [e] at ha; omega
      · rw [if_neg e]; exact ha
    have un : ∀ k c x, g_R (g_mk s t n m) k c = some x → g_R s k c = some x := fun k c x e => by
      rw [x_R_mk] at e
      by_cases w : c = g_cnt s t * 64 + t
      · rw [if_pos w] at e; cases e
      · rw [if_neg w] at e; exact e
    refine ⟨fun a ha => al a (z1 a ha), fun k hK c x e => ?_⟩
    obtain ⟨q1, q2, q3, q4, q5⟩ := z2 k hK c x (un k c x e)
    exact ⟨al x q1, q2, q3, q4, fun k2 hK2 c2 e2 => q5 k2 hK2 c2 (un k2 c2 x e2)⟩
/-- what is made is of its kind, and no field has it -/
theorem z_mk_new {s : g_St} (z : z_Ok s) (t n m : Nat) (ht : t < 64) : let x := g_cnt s t * 64 + t; g_al (g_mk s t n m) x ∧ x % 64 = t ∧ x ∉ m_arr ∧ x ≠ 1237 ∧ ∀ k ∈ z_aK, ∀ c, g_R (g_mk s t n m) k c ≠ some x := by
  intro x
  have hx : x % 64 = t := by show (g_cnt s t * 64 + t) % 64 = t; omega
  have hna : ¬ g_al s x := fun w => by
    unfold g_al at w
    rw [hx] at w
    have : x / 64 = g_cnt s t := by show (g_cnt s t * 64 + t) / 64 = _; omega
    omega
  refine ⟨?_, hx, fun w => hna (z.1 x (Or.inl w)), fun w => hna (z.1 x (Or.inr (Or.inl w))), fun k hK c e => ?_⟩
  · unfold g_al
    rw [x_cnt_mk, hx, if_pos (Eq.refl _)]
    show (g_cnt s t * 64 + t) / 64 < _
    omega
  · rw [x_R_mk] at e
    by_cases w : c = g_cnt s t * 64 + t
    · rw [if_pos w] at e; cases e
    · rw [if_neg w] at e
      exact hna (z.2 k hK c x e).1
theorem z_V.bump {wK wA : List Nat} {b : Option Nat} {u s : g_St} (h : z_V false wK wA b u s) (c n : Nat) : z_V false wK wA b u (g_bump s c n) := ⟨⟨h.1.1, Nat.le_trans h.1.2.1 (Nat.le_add_right _ _), Nat.le_trans h.1.2.2.1 (Nat.le_add_right _ _), fun e => (by cases e)⟩, h.2⟩
/-- what writes nothing and makes nothing -/
theorem er_gI {α : Type} {s : g_St} {k : Nat} {r : Option Nat} {F : Int32 → Option α} {o : α} {C : Prop} (h : g_gI s k r F = some o) (kk : ∀ x, F x = some o → C) : C := by
  unfold g_gI at h
  split at h
  · cases h
  · first
    | exact kk _ h
    | (split at h
       · first
         | exact kk _ h
         | cases h
       · first
         | exact kk _ h
         | cases h)
theorem er_gL {α : Type} {s : g_St} {k : Nat} {r : Option Nat} {F : Int64 → Option α} {o : α} {C : Prop} (h : g_gL s k r F = some o) (kk : ∀ x, F x = some o → C) : C := by
  unfold g_gL at h
  split at h
  · cases h
  · first
    | exact kk _ h
    | (split at h
       · first
         | exact kk _ h
         | cases h
       · first
         | exact kk _ h
         | cases h)
theorem er_aI {α : Type} {s : g_St} {r : Option Nat} {i : Int32} {F : Int32 → Option α} {o : α} {C : Prop} (h : g_aI s r i F = some o) (kk : ∀ x, F x = some o → C) : C := by
  unfold g_aI at h
  split at h
  · cases h
  · first
    | exact kk _ h
    | (split at h
       · first
         | exact kk _ h
         | cases h
       · first
         | exact kk _ h
         | cases h)
theorem er_aL {α : Type} {s : g_St} {r : Option Nat} {i : Int32} {F : Int64 → Option α} {o : α} {C : Prop} (h : g_aL s r i F = some o) (kk : ∀ x, F x = some o → C) : C := by
  unfold g_aL at h
  split at h
  · cases h
  · first
    | exact kk _ h
    | (split at h
       · first
         | exact kk _ h
         | cases h
       · first
         | exact kk _ h
         | cases h)
theorem er_aR {α : Type} {s : g_St} {r : Option Nat} {i : Int32} {F : Option Nat → Option α} {o : α} {C : Prop} (h : g_aR s r i F = some o) (kk : ∀ x, F x = some o → C) : C := by
  unfold g_aR at h
  split at h
  · cases h
  · first
    | exact kk _ h
    | (split at h
       · first
         | exact kk _ h
         | cases h
       · first
         | exact kk _ h
         | cases h)
theorem er_lenO {α : Type} {s : g_St} {r : Option Nat} {F : Int32 → Option α} {o : α} {C : Prop} (h : g_lenO s r F = some o) (kk : ∀ x, F x = some o → C) : C := by
  unfold g_lenO at h
  split at h
  · cases h
  · first
    | exact kk _ h
    | (split at h
       · first
         | exact kk _ h
         | cases h
       · first
         | exact kk _ h
         | cases h)
theorem er_aO {α : Type} {s : g_St} {r : Option Nat} {i : Int32} {F : Option Nat → Option α} {o : α} {C : Prop} (h : g_aO s r i F = some o) (kk : ∀ x, F x = some o → C) : C := by
  unfold g_aO at h
  split at h
  · cases h
  · first
    | exact kk _ h
    | (split at h
       · first
         | exact kk _ h
         | cases h
       · first
         | exact kk _ h
         | cases h)
theorem er_sfI {α : Type} {f : Nat → Int32} {r : Option Nat} {F : Int32 → Option α} {o : α} {C : Prop} (h : g_sfI f r F = some o) (kk : ∀ x, F x = some o → C) : C := by
  unfold g_sfI at h
  split at h
  · cases h
  · first
    | exact kk _ h
    | (split at h
       · first
         | exact kk _ h
         | cases h
       · first
         | exact kk _ h
         | cases h)
theorem er_sfR {α : Type} {f : Nat → Nat} {r : Option Nat} {F : Option Nat → Option α} {o : α} {C : Prop} (h : g_sfR f r F = some o) (kk : ∀ x, F x = some o → C) : C := by
  unfold g_sfR at h
  split at h
  · cases h
  · first
    | exact kk _ h
    | (split at h
       · first
         | exact kk _ h
         | cases h
       · first
         | exact kk _ h
         | cases h)
theorem er_tI {α : Type} {f : Nat → Int32} {r : Option Nat} {F : Int32 → Option α} {o : α} {C : Prop} (h : g_tI f r F = some o) (kk : ∀ x, F x = some o → C) : C := by
  unfold g_tI at h
  split at h
  · cases h
  · first
    | exact kk _ h
    | (split at h
       · first
         | exact kk _ h
         | cases h
       · first
         | exact kk _ h
         | cases h)
theorem er_tR {α : Type} {f : Nat → Nat} {r : Option Nat} {F : Option Nat → Option α} {o : α} {C : Prop} (h : g_tR f r F = some o) (kk : ∀ x, F x = some o → C) : C := by
  unfold g_tR at h
  split at h
  · cases h
  · first
    | exact kk _ h
    | (split at h
       · first
         | exact kk _ h
         | cases h
       · first
         | exact kk _ h
         | cases h)
theorem er_ksl {α : Type} {r : Option Nat} {F : Int32 → Option α} {o : α} {C : Prop} (h : g_ksl r F = some o) (kk : ∀ x, F x = some o → C) : C := by
  unfold g_ksl at h
  split at h
  · cases h
  · first
    | exact kk _ h
    | (split at h
       · first
         | exact kk _ h
         | cases h
       · first
         | exact kk _ h
         | cases h)
theorem er_ksa {α : Type} {r : Option Nat} {i : Int32} {F : Option Nat → Option α} {o : α} {C : Prop} (h : g_ksa r i F = some o) (kk : ∀ x, F x = some o → C) : C := by
  unfold g_ksa at h
  split at h
  · cases h
  · first
    | exact kk _ h
    | (split at h
       · first
         | exact kk _ h
         | cases h
       · first
         | exact kk _ h
         | cases h)
theorem er_swl {α : Type} {r : Option Nat} {i : Int32} {F : Int32 → Option α} {o : α} {C : Prop} (h : g_swl r i F = some o) (kk : ∀ x, F x = some o → C) : C := by
  unfold g_swl at h
  split at h
  · cases h
  · first
    | exact kk _ h
    | (split at h
       · first
         | exact kk _ h
         | cases h
       · first
         | exact kk _ h
         | cases h)
theorem er_bln {α : Type} {r : Option Nat} {F : Int32 → Option α} {o : α} {C : Prop} (h : g_bln r F = some o) (kk : ∀ x, F x = some o → C) : C := by
  unfold g_bln at h
  split at h
  · cases h
  · first
    | exact kk _ h
    | (split at h
       · first
         | exact kk _ h
         | cases h
       · first
         | exact kk _ h
         | cases h)
theorem er_bla {α : Type} {r : Option Nat} {i : Int32} {F : Int32 → Option α} {o : α} {C : Prop} (h : g_bla r i F = some o) (kk : ∀ x, F x = some o → C) : C := by
  unfold g_bla at h
  split at h
  · cases h
  · first
    | exact kk _ h
    | (split at h
       · first
         | exact kk _ h
         | cases h
       · first
         | exact kk _ h
         | cases h)
theorem er_gR {α : Type} {s : g_St} {k : Nat} {r : Option Nat} {F : Option Nat → Option α} {o : α} {C : Prop} (h : g_gR s k r F = some o) (kk : ∀ c p, r = some c → g_R s k c = p → F p = some o → C) : C := by
  cases r with
  | none => cases h
  | some a => exact kk a _ rfl rfl h
theorem er_pI {α : Type} {s : g_St} {k : Nat} {r : Option Nat} {v : Int32} {F : g_St → Option α} {o : α} {C : Prop} (h : g_pI s k r v F = some o) (kk : ∀ a, r = some a → F (g_setI s k a v) = some o → C) : C := by
  cases r with
  | none => cases h
  | some a => exact kk a rfl h
theorem er_pL {α : Type} {s : g_St} {k : Nat} {r : Option Nat} {v : Int64} {F : g_St → Option α} {o : α} {C : Prop} (h : g_pL s k r v F = some o) (kk : ∀ a, r = some a → F (g_setL s k a v) = some o → C) : C := by
  cases r with
  | none => cases h
  | some a => exact kk a rfl h
theorem er_pR {α : Type} {s : g_St} {k : Nat} {r : Option Nat} {v : Option Nat} {F : g_St → Option α} {o : α} {C : Prop} (h : g_pR s k r v F = some o) (kk : ∀ a, r = some a → F (g_setR s k a v) = some o → C) : C := by
  cases r with
  | none => cases h
  | some a => exact kk a rfl h
theorem er_pZ {α : Type} {s : g_St} {k : Nat} {r : Option Nat} {v : Int32} {F : g_St → Option α} {o : α} {C : Prop} (h : g_pZ s k r v F = some o) (kk : ∀ a, r = some a → F (g_setI s k a v) = some o → C) : C := by
  cases r with
  | none => cases h
  | some a =>
    unfold g_pZ at h
    simp only [] at h
    split at h
    · exact kk a rfl h
    · cases h
theorem er_sI {α : Type} {s : g_St} {r : Option Nat} {i : Int32} {v : Int32} {F : g_St → Option α} {o : α} {C : Prop} (h : g_sI s r i v F = some o) (kk : ∀ x j, r = some x → F (g_setAI s x j v) = some o → C) : C := by
  cases r with
  | none => cases h
  | some a =>
    unfold g_sI at h
    simp only [] at h
    split at h
    · cases h
    · exact kk a _ rfl h
theorem er_sL {α : Type} {s : g_St} {r : Option Nat} {i : Int32} {v : Int64} {F : g_St → Option α} {o : α} {C : Prop} (h : g_sL s r i v F = some o) (kk : ∀ x j, r = some x → F (g_setAL s x j v) = some o → C) : C := by
  cases r with
  | none => cases h
  | some a =>
    unfold g_sL at h
    simp only [] at h
    split at h
    · cases h
    · exact kk a _ rfl h
theorem er_sR {α : Type} {s : g_St} {r : Option Nat} {i : Int32} {v : Option Nat} {F : g_St → Option α} {o : α} {C : Prop} (h : g_sR s r i v F = some o) (kk : ∀ x j, r = some x → F (g_setAR s x j v) = some o → C) : C := by
  cases r with
  | none => cases h
  | some a =>
    unfold g_sR at h
    simp only [] at h
    split at h
    · cases h
    · exact kk a _ rfl h
theorem er_sC {α : Type} {s : g_St} {r : Option Nat} {i : Int32} {v : Int32} {F : g_St → Option α} {o : α} {C : Prop} (h : g_sC s r i v F = some o) (kk : ∀ x j, r = some x → F (g_setAI s x j v) = some o → C) : C := by
  cases r with
  | none => cases h
  | some a =>
    unfold g_sC at h
    simp only [] at h
    split at h
    · cases h
    · exact kk a _ rfl h
theorem er_sO {α : Type} {s : g_St} {r : Option Nat} {i : Int32} {v : Option Nat} {F : g_St → Option α} {o : α} {C : Prop} (h : g_sO s r i v F = some o) (kk : ∀ x j, r = some x → x / 64 ≠ 0 → F (g_setAR s x j v) = some o → C) : C := by
  cases r with
  | none => cases h
  | some a =>
    unfold g_sO at h
    simp only [] at h
    split at h
    · cases h
    · rename_i w
      exact kk a _ rfl (fun q => w (Or.inl (Or.inl q))) h
theorem er_new {α : Type} {wK wA : List Nat} {b : Option Nat} {u s : g_St} {t n : Nat} {F : Option Nat → g_St → Option α} {o : α} {C : Prop} (hs : z_V false wK wA b u s) (ht : t < 64) (h : g_new s t n F = some o) (kk : ∀ p s', z_V false wK wA b u s' → (∀ x, p = some x → ¬ g_al u x) → F p s' = some o → C) : C := by
  unfold g_new at h
  split at h
  · exact kk _ _ (hs.mk t n 0 ht).1 (fun x e => by rw [← Option.some.inj e]; exact (hs.mk t n 0 ht).2) h
  · cases h
theorem er_newA {α : Type} {wK wA : List Nat} {b : Option Nat} {u s : g_St} {t : Nat} {n : Int32} {F : Option Nat → g_St → Option α} {o : α} {C : Prop} (hs : z_V false wK wA b u s) (ht : t < 64) (h : g_newA s t n F = some o) (kk : ∀ p s', z_V false wK wA b u s' → (∀ x, p = some x → ¬ g_al u x) → (z_Ok u → ∀ x, p = some x → g_al s' x ∧ x % 64 = t ∧ x ∉ m_arr ∧ x ≠ 1237 ∧ ∀ k' ∈ z_aK, ∀ c, g_R s' k' c ≠ some x) → F p s' = some o → C) : C := by
  unfold g_newA at h
  split at h
  · exact kk _ _ (hs.mk t _ _ ht).1 (fun x e => by rw [← Option.some.inj e]; exact (hs.mk t n.toNatClampNeg n.toNatClampNeg ht).2) (fun z x e => by
      rw [← Option.some.inj e]
      exact z_mk_new (hs.2.2.2.2 z) t _ _ ht) h
  · cases h
theorem er_str {α : Type} {r : Option Nat} {X : Option α} {o : α} (h : g_str r X = some o) : X = some o := by
  unfold g_str at h
  split at h
  · cases h
  · split at h
    · exact h
    · cases h
theorem er_cast {α : Type} {t : Nat} {r : Option Nat} {X : Option α} {o : α} (h : g_cast t r X = some o) : X = some o := by
  unfold g_cast at h
  split at h
  · exact h
  · split at h
    · exact h
    · cases h
theorem er_nz {α : Type} {x : Int32} {X : Option α} {o : α} (h : g_nz x X = some o) : X = some o := fr_nz h id
theorem er_rZ {α : Type} {x : Int32} {X : Option α} {o : α} (h : g_rZ x X = some o) : X = some o := fr_rZ h id
theorem er_rC {α : Type} {x : Int32} {X : Option α} {o : α} (h : g_rC x X = some o) : X = some o := by
  unfold g_rC at h
  split at h
  · exact h
  · cases h
theorem er_rB {α : Type} {x : Int32} {X : Option α} {o : α} (h : g_rB x X = some o) : X = some o := by
  unfold g_rB at h
  split at h
  · exact h
  · cases h
theorem er_cT {α β : Type} {X : Option ((α ⊕ Nat) × g_St)} {F : α → g_St → Option ((β ⊕ Nat) × g_St)} {o : (β ⊕ Nat) × g_St} {C : Prop} (h : g_cT X F = some o) (k1 : ∀ v s, X = some (.inl v, s) → F v s = some o → C) (k2 : ∀ e s, X = some (.inr e, s) → o = (.inr e, s) → C) : C := by
  cases hX : X with
  | none => rw [hX] at h; cases h
  | some q =>
    rw [hX] at h
    obtain ⟨q1, q2⟩ := q
    cases q1 with
    | inl v => exact k1 v q2 hX h
    | inr e => exact k2 e q2 hX (Option.some.inj h).symm
theorem er_some {α : Type} {v : α} {s u : g_St} {o : α × g_St} {q : Bool} {wK wA : List Nat} {b : Option Nat} (h : some (v, s) = some o) (hs : z_V q wK wA b u s) : z_V q wK wA b u o.2 := by
  cases h
  exact hs
theorem er_thr {α : Type} {s u : g_St} {e : Nat} {o : (α ⊕ Nat) × g_St} {wK wA : List Nat} {b : Option Nat} (h : g_thr s e = some o) (hs : z_V false wK wA b u s) : z_V false wK wA b u o.2 := by
  unfold g_thr at h
  split at h
  · cases h
    exact hs.bump 8 512
  · cases h
/-! lists, by hand -/
theorem v_Str_checkIndex {u : g_St} (x y : Int32) (s0 : g_St) {o : Unit × g_St} (hs : z_V true [] [] none u s0) (h : f_Str_checkIndex x y s0 = some o) : z_V true [] [] none u o.2 := by
  unfold f_Str_checkIndex at h
  split at h
  · cases h
  · split at h
    · cases h
      exact hs
    · cases h
