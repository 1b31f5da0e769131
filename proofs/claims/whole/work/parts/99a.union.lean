/-! THE REFERENCE READS A PART: its selections -/
def z_uni (kd : Nat → Nat) (vl : Nat → Int64) : Nat → Nat → (List z_Se × List Bool) × z_P
  | 0, p => (([(z_ser kd vl p).1], []), (z_ser kd vl p).2)
  | d + 1, p => match (z_ser kd vl p).2 with
    | .inl q => (([(z_ser kd vl p).1], []), .inl q)
    | .inr q => if kd q = 11 then (if kd (q + 1) = 12 then (((z_ser kd vl p).1 :: (z_uni kd vl d (q + 2)).1.1, true :: (z_uni kd vl d (q + 2)).1.2), (z_uni kd vl d (q + 2)).2) else (((z_ser kd vl p).1 :: (z_uni kd vl d (q + 1)).1.1, false :: (z_uni kd vl d (q + 1)).1.2), (z_uni kd vl d (q + 1)).2)) else (([(z_ser kd vl p).1], []), .inr q)
def z_se0 : z_Se := (0, [], [], [])
def M_ses (pl : Nat → Nat) (u : g_St) (C : Nat → Nat) (s0 p : Nat) (l : List z_Se) : Prop := s0 + l.length ≤ C 2177 ∧ ∀ j, j < l.length → M_se pl u C (s0 + j) p (l.getD j z_se0)
theorem M_ses.low {pl : Nat → Nat} {u v : g_St} {C C' : Nat → Nat} {s0 p : Nat} {l : List z_Se} (m : M_ses pl u C s0 p l) (h : M_low u v C) (le : z_le C C') : M_ses pl v C' s0 p l := ⟨Nat.le_trans m.1 (le _), fun j hj => (m.2 j hj).low h le⟩
/-- the budgets at the beginning of a selection (d = 0), and behind one (d = 1) -/
def z_bs (d q : Nat) (C : Nat → Nat) : Prop := z_bg d q C ∧ 10 * C 3585 ≤ 30 * C 2177 + q + d ∧ C 2817 ≤ 4 * C 2177
theorem z_bs.on {q q' : Nat} {C : Nat → Nat} (h : z_bs 1 q C) (l : q + 1 ≤ q') : z_bs 0 q' C := ⟨⟨by have := h.1.1; omega, h.1.2.1, by have := h.1.2.2; omega⟩, by have := h.2.1; omega, h.2.2⟩
theorem z_bs.on0 {q q' : Nat} {C : Nat → Nat} (h : z_bs 0 q C) (l : q ≤ q') : z_bs 0 q' C := ⟨⟨by have := h.1.1; omega, h.1.2.1, by have := h.1.2.2; omega⟩, by have := h.2.1; omega, h.2.2⟩
theorem z_bs.on1 {q q' : Nat} {C : Nat → Nat} (h : z_bs 1 q C) (l : q ≤ q') : z_bs 1 q' C := ⟨⟨by have := h.1.1; omega, h.1.2.1, by have := h.1.2.2; omega⟩, by have := h.2.1; omega, h.2.2⟩
def M_ju (pl : Nat → Nat) (u0 : g_St) (C0 : Nat → Nat) (p d q : Nat) (l : List z_Se) (fl : List Bool) (u : g_St) (C : Nat → Nat) : Prop := M_c u C ∧ z_le C0 C ∧ M_low u0 u C0 ∧ z_bs d q C ∧ C 1153 = p ∧ C 2177 = C0 2177 + l.length ∧ g_AI u 1940 p = Int32.ofNat l.length ∧ g_AI u 31 p = z_g (fl.any (fun b => !b)) ∧ g_AI u 95 p = z_g (fl.any id) ∧ (∀ a, a = 1236 ∨ a = 1300 ∨ a = 1364 ∨ a = 1876 → g_AI u a = g_AI u0 a) ∧ M_ses pl u C (C0 2177) p l
section
variable {n : Nat} {kd pl : Nat → Nat} {vl : Nat → Int64}
theorem M_ju.as {u0 s s' : g_St} {C0 C : Nat → Nat} {p d q : Nat} {l : List z_Se} {fl : List Bool} (h : M_ju pl u0 C0 p d q l fl s C) (g : M_as s s') : M_ju pl u0 C0 p d q l fl s' C := by
  obtain ⟨h1, h2, h3, h4, h5, h6, h7, h8, h9, h10, h11⟩ := h
  exact ⟨h1.as g, h2, h3.trans (M_low.as g) z_le.re, h4, h5, h6, by rw [g.1]; exact h7, by rw [g.1]; exact h8, by rw [g.1]; exact h9, fun a w => by rw [g.1]; exact h10 a w, h11.low (M_low.as g) z_le.re⟩
/-- one selection of a part, counted -/
theorem b_un1 (H : z_H n kd) {u0 u : g_St} {C0 C : Nat → Nat} {p q : Nat} {l : List z_Se} {fl : List Bool} (h : M_b n kd pl vl u (.inr q)) (hp : p < 4) (h0 : C0 2177 ≤ 4 * p) (h01 : C0 1153 = p) (hl : l.length ≤ 3) (J : M_ju pl u0 C0 p 0 q l fl u C) (f : Nat) :
    ∃ s, M_b n kd pl vl s (z_ser kd vl q).2 ∧ f_M_readPart_153 (f + 1) (some 1) (Int32.ofNat p) 1 u = (if 3 ≤ l.length then f_M_readPart_203 (f_M_readPart_153 f) (some 1) (Int32.ofNat p) 0 s else g_c (f_M_skip (some 1) 12 s) fun i t => if i = 0 then f_M_readPart_203 (f_M_readPart_153 f) (some 1) (Int32.ofNat p) 0 t else f_M_readPart_203 (f_M_readPart_153 f) (some 1) (Int32.ofNat p) 1 t) ∧ ∀ q', (z_ser kd vl q).2 = .inr q' → ∃ C', M_ju pl u0 C0 p 1 q' (l ++ [(z_ser kd vl q).1]) fl s C' := by
  obtain ⟨h1, h2, h3, h4, h5, h6, h7, h8, h9, h10, h11⟩ := J
  obtain ⟨u1, a1, a2, a3⟩ := b_sel H h h1 h4.1 (by omega) (by have := h4.2.1; omega) h4.2.2 p
  have w := w_M_readSelection _ _ h.1 a1
  have k : ∀ a, a = 1236 ∨ a = 1300 ∨ a = 1364 ∨ a = 1876 ∨ a = 1940 ∨ a = 31 ∨ a = 95 → g_AI u1 a = g_AI u a := fun a q => (w.2.2.2.2.2.2.2.2 a (fun y => by simp only [List.mem_cons, List.not_mem_nil, or_false] at y; omega)).1
  have g1 : g_AI u1 1940 p = Int32.ofNat l.length := by rw [k 1940 (by omega)]; exact h7
  refine ⟨g_setAI u1 1940 p (Int32.ofNat (l.length + 1)), a2.sI (by decide) (by decide) _ _, ?_, fun q' hq => ?_⟩
  · rw [f_M_readPart_153, if_neg (by decide), x_nn, b_bad h, x_c, if_pos rfl, x_nn, a1, x_c, x_gR, (m_at a2.1 m_k2049).1, x_aI (by omega) (by rw [(m_at a2.1 m_k2049).2]; exact hp), g1, x_p1, x_sI (by omega) (by rw [(m_at a2.1 m_k2049).2]; exact hp), x_gR, show g_R (g_setAI u1 1940 p (Int32.ofNat (l.length + 1))) 2049 1 = some 1940 from (m_at a2.1 m_k2049).1, x_aI (by omega) (by show p < g_ln u1 1940; rw [(m_at a2.1 m_k2049).2]; exact hp), show g_AI (g_setAI u1 1940 p (Int32.ofNat (l.length + 1))) 1940 p = Int32.ofNat (l.length + 1) from (by rw [x_AI_AI, if_pos ⟨rfl, rfl⟩])]
    have e4 : (4 ≤ Int32.ofNat (l.length + 1)) = (4 ≤ l.length + 1) := x_le (a := 4) (by decide) (by omega)
    by_cases w : 3 ≤ l.length
    · rw [if_pos w, if_pos (by rw [e4]; omega)]
    · rw [if_neg w, if_neg (by rw [e4]; omega)]; rfl
  · obtain ⟨b1, C', b2, b3, b4, b5, b6, b7, b8, b9⟩ := a3 q' hq
    have len : (l ++ [(z_ser kd vl q).1]).length = l.length + 1 := by rw [List.length_append, List.length_singleton]
    have gs : ∀ a, a ≠ 1940 → g_AI (g_setAI u1 1940 p (Int32.ofNat (l.length + 1))) a = g_AI u1 a := fun a h => funext fun j => by rw [x_AI_AI, if_neg (fun w => h w.1)]
    have L1 : M_low u1 (g_setAI u1 1940 p (Int32.ofNat (l.length + 1))) C' := M_low.re.sI (f := 1153) (k := 1) (by decide) (by omega) _
    have L2 := b1.trans L1 b3
    refine ⟨C', b2.sI _ _ _, h2.trans b3, h3.trans L2 h2, ⟨b6, b7, b8⟩, by omega, by rw [len]; omega, by rw [len, x_AI_AI, if_pos ⟨rfl, rfl⟩], by rw [gs 31 (by decide), k 31 (by omega)]; exact h8, by rw [gs 95 (by decide), k 95 (by omega)]; exact h9, fun a q => by rw [gs a (by omega), k a (by omega)]; exact h10 a q, by rw [len]; omega, fun j hj => ?_⟩
    rw [len] at hj
    by_cases w : j < l.length
    · rw [z_getD_l w]
      exact (h11.low L2 b3).2 j w
    · have ej : j = l.length := by omega
      rw [ej, z_getD_e, ← h6]
      exact b9.low L1 z_le.re
/-- ALL or not, behind a UNION -/
theorem b_un2 (H : z_H n kd) {u0 t : g_St} {C0 C : Nat → Nat} {p q : Nat} {l : List z_Se} {fl : List Bool} (h : M_b n kd pl vl t (.inr (q + 1))) (hp : p < 4) (h01 : C0 1153 = p) (J : M_ju pl u0 C0 p 1 q l fl t C) (f : Nat) :
    ∃ s, f_M_readPart_203 (f_M_readPart_153 f) (some 1) (Int32.ofNat p) 1 t = f_M_readPart_153 f (some 1) (Int32.ofNat p) 1 s ∧ (kd (q + 1) = 12 → M_b n kd pl vl s (.inr (q + 2)) ∧ M_ju pl u0 C0 p 0 (q + 2) l (fl ++ [true]) s C) ∧ (kd (q + 1) ≠ 12 → M_b n kd pl vl s (.inr (q + 1)) ∧ M_ju pl u0 C0 p 0 (q + 1) l (fl ++ [false]) s C) := by
  obtain ⟨t2, a1, a2, a3⟩ := b_sk H h (k := 12) (by decide)
  obtain ⟨h1, h2, h3, h4, h5, h6, h7, h8, h9, h10, h11⟩ := J.as a3
  -- the state behind, whatever the word
  have key : ∀ b : Bool, (z_skr kd 12 (.inr (q + 1))).1 = b → ∃ s, s = g_setAI (g_setAI t2 95 p (z_g (fl.any id || b))) 31 p (z_g ((fl.any fun b => !b) || !b)) ∧ f_M_readPart_203 (f_M_readPart_153 f) (some 1) (Int32.ofNat p) 1 t = f_M_readPart_153 f (some 1) (Int32.ofNat p) 1 s := by
    intro b hb
    refine ⟨_, rfl, ?_⟩
    unfold f_M_readPart_203
    rw [if_neg (by decide), x_nn, show (13 : Int32) = z_km 12 from rfl, a1, x_c, hb, x_gR, (m_at a2.1 m_k1921).1, x_gR, (m_at a2.1 m_k1921).1, x_aI (by omega) (by rw [(m_at a2.1 m_k1921).2]; exact hp), h9]
    have st : ∀ (x : Bool), f_M_readPart_241 (f_M_readPart_153 f) (some 1) (Int32.ofNat p) 1 (z_g b) (some 95) (Int32.ofNat p) (z_g x) t2 = f_M_readPart_153 f (some 1) (Int32.ofNat p) 1 (g_setAI (g_setAI t2 95 p (z_g x)) 31 p (z_g ((fl.any fun b => !b) || !b))) := by
      intro x
      unfold f_M_readPart_241
      have l95 : p < g_ln t2 95 := by rw [(m_at a2.1 m_k1921).2]; exact hp
      have l31 : p < g_ln t2 31 := by rw [(m_at a2.1 m_k1857).2]; exact hp
      have st1 : ∀ {α : Type} (F : g_St → Option α), g_sZ t2 (some 95) (Int32.ofNat p) (z_g x) F = F (g_setAI t2 95 p (z_g x)) := fun F => by
        cases x with
        | true => exact x_sZ (by omega) l95 F
        | false => exact x_sZ0 (by omega) l95 F
      rw [st1, x_gR, show g_R (g_setAI t2 95 p (z_g x)) 1857 1 = some 31 from (m_at a2.1 m_k1857).1, x_gR, show g_R (g_setAI t2 95 p (z_g x)) 1857 1 = some 31 from (m_at a2.1 m_k1857).1, x_aI (by omega) (by show p < g_ln t2 31; exact l31), show g_AI (g_setAI t2 95 p (z_g x)) 31 p = z_g (fl.any fun b => !b) from (by rw [x_AI_AI, if_neg (fun y => by have := y.1; omega)]; exact h8)]
      have s1 : ∀ {α : Type} (F : g_St → Option α), g_sZ (g_setAI t2 95 p (z_g x)) (some 31) (Int32.ofNat p) 1 F = F (g_setAI (g_setAI t2 95 p (z_g x)) 31 p 1) := fun F => x_sZ (u := g_setAI t2 95 p (z_g x)) (by omega) l31 F
      have s0 : ∀ {α : Type} (F : g_St → Option α), g_sZ (g_setAI t2 95 p (z_g x)) (some 31) (Int32.ofNat p) 0 F = F (g_setAI (g_setAI t2 95 p (z_g x)) 31 p 0) := fun F => x_sZ0 (u := g_setAI t2 95 p (z_g x)) (by omega) l31 F
      cases fl.any fun b => !b with
      | true => rw [if_neg (by decide), s1]; cases b <;> rfl
      | false =>
        rw [if_pos (show z_g false = 0 from rfl)]
        cases b with
        | true => rw [if_neg (by decide), s0]; rfl
        | false => rw [if_pos (show z_g false = 0 from rfl), s1]; rfl
    cases fl.any id with
    | true => rw [if_neg (by decide)]; exact st true
    | false =>
      rw [if_pos (show z_g false = 0 from rfl)]
      cases b with
      | true => rw [if_neg (by decide)]; exact st true
      | false => rw [if_pos (show z_g false = 0 from rfl)]; exact st false
  have anyT : ∀ b, (fl ++ [b]).any id = (fl.any id || b) := fun b => by rw [List.any_append]; cases b <;> rfl
  have anyF : ∀ b, ((fl ++ [b]).any fun b => !b) = ((fl.any fun b => !b) || !b) := fun b => by rw [List.any_append]; cases b <;> rfl
  have fin : ∀ (b : Bool) (s : g_St) (q' : Nat), s = g_setAI (g_setAI t2 95 p (z_g (fl.any id || b))) 31 p (z_g ((fl.any fun b => !b) || !b)) → q + 1 ≤ q' → M_b n kd pl vl t2 (.inr q') → M_b n kd pl vl s (.inr q') ∧ M_ju pl u0 C0 p 0 q' l (fl ++ [b]) s C := by
    intro b s q' hs hq hB
    have gs : ∀ a j, g_AI s a j = if a = 31 ∧ j = p then z_g ((fl.any fun b => !b) || !b) else if a = 95 ∧ j = p then z_g (fl.any id || b) else g_AI t2 a j := fun a j => by rw [hs, x_AI_AI, x_AI_AI]
    have L1 : M_low t2 s C := by
      rw [hs]
      exact ((M_low.re).sI (f := 1153) (k := 1) (by decide) (by omega) _).sI (f := 1153) (k := 1) (by decide) (by omega) _
    refine ⟨by rw [hs]; exact (hB.sI (by decide) (by decide) _ _).sI (by decide) (by decide) _ _, by rw [hs]; exact (h1.sI _ _ _).sI _ _ _, h2, h3.trans L1 h2, h4.on hq, h5, h6, ?_, ?_, ?_, fun a w => funext fun j => ?_, h11.low L1 z_le.re⟩
    · rw [gs, if_neg (fun y => by have := y.1; omega), if_neg (fun y => by have := y.1; omega)]; exact h7
    · rw [gs, if_pos ⟨rfl, rfl⟩, anyF]
    · rw [gs, if_neg (fun y => by have := y.1; omega), if_pos ⟨rfl, rfl⟩, anyT]
    · rw [gs, if_neg (fun y => by have := y.1; omega), if_neg (fun y => by have := y.1; omega), h10 a w]
  by_cases w : kd (q + 1) = 12
  · obtain ⟨s, e1, e2⟩ := key true (by rw [z_skr_t w])
    rw [z_skr_t w] at a2
    exact ⟨s, e2, fun _ => fin true s (q + 2) e1 (by omega) a2, fun y => absurd w y⟩
  · obtain ⟨s, e1, e2⟩ := key false (by rw [z_skr_f w])
    rw [z_skr_f w] at a2
    exact ⟨s, e2, fun y => absurd y w, fun _ => fin false s (q + 1) e1 (by omega) a2⟩
theorem b_un (H : z_H n kd) {u0 : g_St} {C0 : Nat → Nat} {p : Nat} (hp : p < 4) (h0 : C0 2177 ≤ 4 * p) (h01 : C0 1153 = p) : ∀ (d q : Nat) (l : List z_Se) (fl : List Bool) (u : g_St) (C : Nat → Nat) (f : Nat), l.length + d = 3 → d + 1 < f → M_b n kd pl vl u (.inr q) → M_ju pl u0 C0 p 0 q l fl u C →
    ∃ u', f_M_readPart_153 f (some 1) (Int32.ofNat p) 1 u = f_M_readPart_269 (some 1) (Int32.ofNat p) u' ∧ M_b n kd pl vl u' (z_uni kd vl d q).2 ∧ (z_uni kd vl d q).1.1.length ≤ d + 1 ∧ ∀ q', (z_uni kd vl d q).2 = .inr q' → ∃ C', M_ju pl u0 C0 p 1 q' (l ++ (z_uni kd vl d q).1.1) (fl ++ (z_uni kd vl d q).1.2) u' C' := by
  have e0 : ∀ f s, f_M_readPart_203 (f_M_readPart_153 (f + 1)) (some 1) (Int32.ofNat p) 0 s = f_M_readPart_269 (some 1) (Int32.ofNat p) s := fun f s => by
    unfold f_M_readPart_203
    rw [if_pos rfl, f_M_readPart_153, if_pos rfl]
  intro d
  induction d with
  | zero =>
    intro q l fl u C f h1 h2 h3 h4
    obtain ⟨f, rfl⟩ : ∃ m, f = m + 2 := ⟨f - 2, by omega⟩
    obtain ⟨s, a1, a2, a3⟩ := b_un1 H h3 hp h0 h01 (by omega) h4 (f + 1)
    rw [if_pos (by omega), e0] at a2
    refine ⟨s, a2, a1, Nat.le_refl _, fun q' hq => ?_⟩
    obtain ⟨C', j⟩ := a3 q' hq
    exact ⟨C', by rw [show fl ++ (z_uni kd vl 0 q).1.2 = fl from List.append_nil _]; exact j⟩
  | succ d ih =>
    intro q l fl u C f h1 h2 h3 h4
    obtain ⟨f, rfl⟩ : ∃ m, f = m + 2 := ⟨f - 2, by omega⟩
    obtain ⟨s, a1, a2, a3⟩ := b_un1 H h3 hp h0 h01 (by omega) h4 (f + 1)
    obtain ⟨t, b1, b2, b3⟩ := b_sk H a1 (k := 11) (by decide)
    rw [if_neg (by omega), show (12 : Int32) = z_km 11 from rfl, b1, x_c] at a2
    cases hz : (z_ser kd vl q).2 with
    | inl x =>
      have e : z_uni kd vl (d + 1) q = (([(z_ser kd vl q).1], []), .inl x) := by rw [z_uni, hz]
      rw [hz] at b2 a2
      rw [if_pos (show z_g (z_skr kd 11 (.inl x)).1 = 0 from rfl), e0] at a2
      rw [e]
      exact ⟨t, a2, b2, by show 1 ≤ _; omega, fun q' w => by cases w⟩
    | inr x =>
      obtain ⟨C', j⟩ := a3 x hz
      by_cases w : kd x = 11
      · rw [hz, z_skr_t w] at b2 a2
        rw [if_neg (show ¬ z_g (true, (.inr (x + 1) : z_P)).1 = 0 from (show ¬ z_g true = 0 by decide))] at a2
        obtain ⟨s', c1, c2, c3⟩ := b_un2 H b2 hp h01 (j.as b3) (f + 1)
        have ln : (l ++ [(z_ser kd vl q).1]).length = l.length + 1 := by rw [List.length_append, List.length_singleton]
        by_cases y : kd (x + 1) = 12
        · have e : z_uni kd vl (d + 1) q = (((z_ser kd vl q).1 :: (z_uni kd vl d (x + 2)).1.1, true :: (z_uni kd vl d (x + 2)).1.2), (z_uni kd vl d (x + 2)).2) := by rw [z_uni, hz]; simp only []; rw [if_pos w, if_pos y]
          obtain ⟨g1, g2⟩ := c2 y
          obtain ⟨u', d1, d2, d3, d4⟩ := ih (x + 2) _ _ s' C' (f + 1) (by rw [ln]; omega) (by omega) g1 g2
          rw [e]
          refine ⟨u', (a2.trans c1).trans d1, d2, by show (z_uni kd vl d (x + 2)).1.1.length + 1 ≤ _; omega, fun q' w' => ?_⟩
          obtain ⟨C'', j''⟩ := d4 q' w'
          rw [List.append_assoc, List.append_assoc] at j''
          exact ⟨C'', j''⟩
        · have e : z_uni kd vl (d + 1) q = (((z_ser kd vl q).1 :: (z_uni kd vl d (x + 1)).1.1, false :: (z_uni kd vl d (x + 1)).1.2), (z_uni kd vl d (x + 1)).2) := by rw [z_uni, hz]; simp only []; rw [if_pos w, if_neg y]
          obtain ⟨g1, g2⟩ := c3 y
          obtain ⟨u', d1, d2, d3, d4⟩ := ih (x + 1) _ _ s' C' (f + 1) (by rw [ln]; omega) (by omega) g1 g2
          rw [e]
          refine ⟨u', (a2.trans c1).trans d1, d2, by show (z_uni kd vl d (x + 1)).1.1.length + 1 ≤ _; omega, fun q' w' => ?_⟩
          obtain ⟨C'', j''⟩ := d4 q' w'
          rw [List.append_assoc, List.append_assoc] at j''
          exact ⟨C'', j''⟩
      · have e : z_uni kd vl (d + 1) q = (([(z_ser kd vl q).1], []), .inr x) := by rw [z_uni, hz]; simp only []; rw [if_neg w]
        rw [hz, z_skr_f w] at b2 a2
        rw [if_pos (show z_g (false, (.inr x : z_P)).1 = 0 from rfl), e0] at a2
        rw [e]
        refine ⟨t, a2, b2, by show 1 ≤ _; omega, fun q' w' => ?_⟩
        cases w'
        exact ⟨C', by rw [show fl ++ ([] : List Bool) = fl from List.append_nil _]; exact j.as b3⟩
end
