/-! THE REFERENCE READS TRAILS -/
def z_sea (kd : Nat → Nat) (r : z_P) : Option (Bool × Nat) × z_P := match z_skr kd 13 r with
  | (true, .inr q) => (some (decide (kd q = 15), q), z_ndr kd 36 (z_ndr kd 18 (z_ndr kd 36 (z_ndr kd 17 (z_ndr kd 16 (if kd q = 15 then .inr (q + 1) else z_ndr kd 14 (.inr q)))))))
  | (_, r) => (none, r)
def z_cyc (kd : Nat → Nat) (r : z_P) : Option Nat × z_P := match z_skr kd 19 r with
  | (true, .inr q) => (some q, z_ndr kd 36 (z_ndr kd 18 (z_ndr kd 36 (.inr q))))
  | (_, r) => (none, r)
def M_ps (u : g_St) (p : Nat) (x : Option (Bool × Nat)) : Prop := match x with
  | none => g_AI u 1428 p = 0
  | some y => g_AI u 1428 p = (if y.1 = true then 2 else 1) ∧ g_AI u 1492 p = Int32.ofNat (y.2 + 3) ∧ g_AI u 1556 p = Int32.ofNat (y.2 + 5)
def M_pc (u : g_St) (p : Nat) (x : Option Nat) : Prop := match x with
  | none => g_AI u 1620 p = -1
  | some q => g_AI u 1620 p = Int32.ofNat q ∧ g_AI u 1684 p = Int32.ofNat (q + 2)
/-- only these arrays changed, and only at p -/
def M_on (A : List Nat) (p : Nat) (u u' : g_St) : Prop := (∀ a j, ¬ (a ∈ A ∧ j = p) → g_AI u' a j = g_AI u a j) ∧ ∀ x, x ≠ 577 → x ≠ 833 → x ≠ 897 → g_I u' x 1 = g_I u x 1
theorem M_on.re {A : List Nat} {p : Nat} {u : g_St} : M_on A p u u := ⟨fun _ _ _ => rfl, fun _ _ _ _ => rfl⟩
theorem M_on.trans {A : List Nat} {p : Nat} {u v w : g_St} (h : M_on A p u v) (g : M_on A p v w) : M_on A p u w := ⟨fun a j q => (g.1 a j q).trans (h.1 a j q), fun x a b c => (g.2 x a b c).trans (h.2 x a b c)⟩
theorem M_on.mono {A B : List Nat} {p : Nat} {u v : g_St} (h : M_on A p u v) (l : ∀ a ∈ A, a ∈ B) : M_on B p u v := ⟨fun a j q => h.1 a j (fun w => q ⟨l a w.1, w.2⟩), h.2⟩
theorem M_on.as {A : List Nat} {p : Nat} {u v w : g_St} (h : M_on A p u v) (g : M_as v w) : M_on A p u w := ⟨fun a j q => by rw [g.1]; exact h.1 a j q, fun x a b c => (g.2 x a b c).trans (h.2 x a b c)⟩
theorem M_on.sI {A : List Nat} {p : Nat} {u v : g_St} (h : M_on A p u v) {a : Nat} (ha : a ∈ A) (x : Int32) : M_on A p u (g_setAI v a p x) := ⟨fun b j q => by
  have w : ¬ (b = a ∧ j = p) := fun w => q ⟨by rw [w.1]; exact ha, w.2⟩
  rw [x_AI_AI, if_neg w]; exact h.1 b j q, h.2⟩
theorem M_on.c {A : List Nat} {p : Nat} {u v : g_St} {C : Nat → Nat} (h : M_on A p u v) (hc : M_c u C) : M_c v C := fun f hf => by
  have w : f ≠ 577 ∧ f ≠ 833 ∧ f ≠ 897 := by
    have w : (z_cf.all fun f => decide (f ≠ 577 ∧ f ≠ 833 ∧ f ≠ 897)) = true := by decide
    exact of_decide_eq_true (List.all_eq_true.mp w f hf)
  rw [h.2 f w.1 w.2.1 w.2.2]; exact hc f hf
section
variable {n : Nat} {kd pl : Nat → Nat} {vl : Nat → Int64}
theorem z_cyc_f {r : z_P} (h : (z_skr kd 19 r).1 = false) : z_cyc kd r = (none, r) := by
  have e := z_skr_false h
  unfold z_cyc
  generalize hx : z_skr kd 19 r = x at h e
  obtain ⟨b, y⟩ := x
  cases b with
  | false => simp only []; rw [← e]
  | true => cases h
theorem z_cyc_t {r : z_P} {q : Nat} (h : z_skr kd 19 r = (true, .inr q)) : z_cyc kd r = (some q, z_ndr kd 36 (z_ndr kd 18 (z_ndr kd 36 (.inr q)))) := by unfold z_cyc; rw [h]
theorem z_sea_f {r : z_P} (h : (z_skr kd 13 r).1 = false) : z_sea kd r = (none, r) := by
  have e := z_skr_false h
  unfold z_sea
  generalize hx : z_skr kd 13 r = x at h e
  obtain ⟨b, y⟩ := x
  cases b with
  | false => simp only []; rw [← e]
  | true => cases h
theorem z_sea_t {r : z_P} {q : Nat} (h : z_skr kd 13 r = (true, .inr q)) : z_sea kd r = (some (decide (kd q = 15), q), z_ndr kd 36 (z_ndr kd 18 (z_ndr kd 36 (z_ndr kd 17 (z_ndr kd 16 (if kd q = 15 then .inr (q + 1) else z_ndr kd 14 (.inr q))))))) := by unfold z_sea; rw [h]
theorem b_tr97 (H : z_H n kd) {u : g_St} {r : z_P} (h : M_b n kd pl vl u r) {p : Nat} (hp : p < 4) : ∃ u', f_M_readTrails_97 (some 1) (Int32.ofNat p) u = some ((), u') ∧ M_b n kd pl vl u' (z_cyc kd r).2 ∧ M_on [1620, 1684] p u u' ∧ ∀ q, (z_cyc kd r).2 = .inr q → M_pc u' p (z_cyc kd r).1 ∧ ∃ p0, r = .inr p0 ∧ p0 ≤ q := by
  have B2 : M_b n kd pl vl (g_setAI u 1620 p (-1)) r := h.sI (by decide) (by decide) _ _
  obtain ⟨s4, a1, a2, a3⟩ := b_sk H B2 (k := 19) (by decide)
  have o4 : M_on [1620, 1684] p u s4 := (M_on.re.sI (by decide) _).as a3
  have start : f_M_readTrails_97 (some 1) (Int32.ofNat p) u = if z_g (z_skr kd 19 r).1 = 0 then some ((), s4) else g_gR s4 1601 (some 1) fun p5 => g_c (g_nn (some 1) (f_M_need (some 1) 30 s4)) fun i6 s7 => g_sI s7 p5 (Int32.ofNat p) i6 fun s8 => g_c (g_nn (some 1) (f_M_need (some 1) 19 s8)) fun i9 s10 => g_gR s10 1665 (some 1) fun p11 => g_c (g_nn (some 1) (f_M_need (some 1) 30 s10)) fun i12 s13 => g_sI s13 p11 (Int32.ofNat p) i12 fun s14 => some ((), s14) := by
    unfold f_M_readTrails_97
    rw [x_gR, (m_at h.1 m_k1601).1, x_sI (by omega) (by rw [(m_at h.1 m_k1601).2]; exact hp), x_nn, show (20 : Int32) = z_km 19 from rfl, a1, x_c]
  cases hz : (z_skr kd 19 r).1 with
  | false =>
    rw [hz, if_pos (by decide)] at start
    rw [z_cyc_f hz]
    rw [z_skr_false hz] at a2
    refine ⟨s4, start, a2, o4, fun q hq => ⟨?_, q, hq, Nat.le_refl _⟩⟩
    show g_AI s4 1620 p = -1
    rw [a3.1, x_AI_AI, if_pos ⟨rfl, rfl⟩]
  | true =>
    obtain ⟨p0, f1, f2, f3⟩ := z_skr_true hz
    rw [hz, if_neg (by decide)] at start
    rw [z_cyc_t f3]
    rw [f3] at a2
    obtain ⟨v6, s7, b1, b2, b3, b4⟩ := b_nd H a2 (k := 36) (by decide)
    have B8 : M_b n kd pl vl (g_setAI s7 1620 p v6) (z_ndr kd 36 (.inr (p0 + 1))) := b2.sI (by decide) (by decide) _ _
    obtain ⟨v9, s10, c1, c2, c3, -⟩ := b_nd H B8 (k := 18) (by decide)
    obtain ⟨v12, s13, d1, d2, d3, d4⟩ := b_nd H c2 (k := 36) (by decide)
    rw [x_gR, (m_at a2.1 m_k1601).1, x_nn, show (30 : Int32) = z_km 36 from rfl, b1, x_c, x_sI (by omega) (by rw [(m_at b2.1 m_k1601).2]; exact hp), x_nn, show (19 : Int32) = z_km 18 from rfl, c1, x_c, x_gR, (m_at c2.1 m_k1665).1, x_nn, d1, x_c, x_sI (by omega) (by rw [(m_at d2.1 m_k1665).2]; exact hp)] at start
    refine ⟨_, start, d2.sI (by decide) (by decide) _ _, ((((o4.as b3).sI (by decide) _).as c3).as d3).sI (by decide) _, fun q hq => ?_⟩
    obtain ⟨q1, w1, w2, w3⟩ := z_ndr_ok hq
    obtain ⟨q2, w4, w5, w6⟩ := z_ndr_ok w1
    obtain ⟨q3, w7, w8, w9⟩ := z_ndr_ok w4
    cases w7
    refine ⟨⟨?_, ?_⟩, p0, f1, by omega⟩
    · rw [x_AI_AI, if_neg (fun y => by have := y.1; omega), d3.1, c3.1, x_AI_AI, if_pos ⟨rfl, rfl⟩, b4 _ rfl w8]
    · rw [x_AI_AI, if_pos ⟨rfl, rfl⟩, d4 q1 w1 w2, show q1 = p0 + 1 + 2 by omega]
theorem b_tr (H : z_H n kd) {u : g_St} {r : z_P} (h : M_b n kd pl vl u r) {p : Nat} (hp : p < 4) : ∃ u', f_M_readTrails (some 1) (Int32.ofNat p) u = some ((), u') ∧ M_b n kd pl vl u' (z_cyc kd (z_sea kd r).2).2 ∧ M_on [1428, 1492, 1556, 1620, 1684] p u u' ∧ ∀ q, (z_cyc kd (z_sea kd r).2).2 = .inr q → M_ps u' p (z_sea kd r).1 ∧ M_pc u' p (z_cyc kd (z_sea kd r).2).1 ∧ ∃ p0, r = .inr p0 ∧ p0 ≤ q := by
  have B2 : M_b n kd pl vl (g_setAI u 1428 p 0) r := h.sI (by decide) (by decide) _ _
  obtain ⟨s4, a1, a2, a3⟩ := b_sk H B2 (k := 13) (by decide)
  have o4 : M_on [1428, 1492, 1556, 1620, 1684] p u s4 := (M_on.re.sI (by decide) _).as a3
  have start : f_M_readTrails (some 1) (Int32.ofNat p) u = if z_g (z_skr kd 13 r).1 = 0 then f_M_readTrails_97 (some 1) (Int32.ofNat p) s4 else g_gR s4 1409 (some 1) fun p5 => g_c (g_nn (some 1) (f_M_is (some 1) 16 s4)) fun i6 s7 => if i6 = 0 then f_M_readTrails_35 (some 1) (Int32.ofNat p) p5 (Int32.ofNat p) 1 s7 else f_M_readTrails_35 (some 1) (Int32.ofNat p) p5 (Int32.ofNat p) 2 s7 := by
    unfold f_M_readTrails
    rw [x_gR, (m_at h.1 m_k1409).1, x_sI (by omega) (by rw [(m_at h.1 m_k1409).2]; exact hp), x_nn, show (14 : Int32) = z_km 13 from rfl, a1, x_c]
  -- from the search on, the cycle
  have fin : ∀ (s : g_St) (r1 : z_P) (x : Option (Bool × Nat)), M_b n kd pl vl s r1 → M_on [1428, 1492, 1556, 1620, 1684] p u s → (∀ q, r1 = .inr q → M_ps s p x ∧ ∃ p0, r = .inr p0 ∧ p0 ≤ q) → z_sea kd r = (x, r1) → f_M_readTrails (some 1) (Int32.ofNat p) u = f_M_readTrails_97 (some 1) (Int32.ofNat p) s → ∃ u', f_M_readTrails (some 1) (Int32.ofNat p) u = some ((), u') ∧ M_b n kd pl vl u' (z_cyc kd (z_sea kd r).2).2 ∧ M_on [1428, 1492, 1556, 1620, 1684] p u u' ∧ ∀ q, (z_cyc kd (z_sea kd r).2).2 = .inr q → M_ps u' p (z_sea kd r).1 ∧ M_pc u' p (z_cyc kd (z_sea kd r).2).1 ∧ ∃ p0, r = .inr p0 ∧ p0 ≤ q := by
    intro s r1 x q1 q2 q3 q4 q5
    obtain ⟨u', b1, b2, b3, b4⟩ := b_tr97 H q1 hp
    rw [q4]
    refine ⟨u', q5.trans b1, b2, q2.trans (b3.mono (by decide)), fun q hq => ?_⟩
    obtain ⟨c1, p1, c2, c3⟩ := b4 q hq
    obtain ⟨c4, p0, c5, c6⟩ := q3 p1 c2
    refine ⟨?_, c1, p0, c5, by omega⟩
    have k : ∀ a, a = 1428 ∨ a = 1492 ∨ a = 1556 → g_AI u' a p = g_AI s a p := fun a w => b3.1 a p (fun y => by have := y.1; simp only [List.mem_cons, List.not_mem_nil, or_false] at this; omega)
    cases x with
    | none => show g_AI u' 1428 p = 0; rw [k 1428 (by omega)]; exact c4
    | some y => exact ⟨by rw [k 1428 (by omega)]; exact c4.1, by rw [k 1492 (by omega)]; exact c4.2.1, by rw [k 1556 (by omega)]; exact c4.2.2⟩
  cases hz : (z_skr kd 13 r).1 with
  | false =>
    rw [hz, if_pos (by decide)] at start
    rw [z_skr_false hz] at a2
    refine fin s4 r none a2 o4 (fun q hq => ⟨?_, q, hq, Nat.le_refl _⟩) (z_sea_f hz) start
    show g_AI s4 1428 p = 0
    rw [a3.1, x_AI_AI, if_pos ⟨rfl, rfl⟩]
  | true =>
    obtain ⟨p0, f1, f2, f3⟩ := z_skr_true hz
    rw [hz, if_neg (by decide)] at start
    rw [f3] at a2
    -- the 35th: the kind of search is written, its word read
    have e35 : ∃ s5, M_b n kd pl vl s5 (if kd (p0 + 1) = 15 then .inr (p0 + 1 + 1) else z_ndr kd 14 (.inr (p0 + 1))) ∧ M_on [1428, 1492, 1556, 1620, 1684] p u s5 ∧ g_AI s5 1428 p = (if decide (kd (p0 + 1) = 15) = true then 2 else 1) ∧ f_M_readTrails (some 1) (Int32.ofNat p) u = f_M_readTrails_52 (some 1) (Int32.ofNat p) s5 := by
      rw [x_gR, (m_at a2.1 m_k1409).1, x_nn, show (16 : Int32) = z_km 15 from rfl, b_is H a2 (by decide), x_c] at start
      by_cases w : kd (p0 + 1) = 15
      · rw [if_pos w, if_neg (by decide)] at start
        unfold f_M_readTrails_35 at start
        have B5 : M_b n kd pl vl (g_setAI s4 1428 p 2) (.inr (p0 + 1)) := a2.sI (by decide) (by decide) _ _
        obtain ⟨s5, b1, b2, b3⟩ := b_sk H B5 (k := 15) (by decide)
        rw [x_sI (by omega) (by rw [(m_at a2.1 m_k1409).2]; exact hp), x_nn, show (16 : Int32) = z_km 15 from rfl, b1, x_c, z_skr_t w, if_neg (show ¬ z_g true = 0 by decide)] at start
        rw [z_skr_t w] at b2
        rw [if_pos w]
        refine ⟨s5, b2, (o4.sI (by decide) _).as b3, ?_, start⟩
        rw [b3.1, x_AI_AI, if_pos ⟨rfl, rfl⟩, if_pos (by rw [w]; rfl)]
      · rw [if_neg w, if_pos rfl] at start
        unfold f_M_readTrails_35 at start
        have B5 : M_b n kd pl vl (g_setAI s4 1428 p 1) (.inr (p0 + 1)) := a2.sI (by decide) (by decide) _ _
        obtain ⟨s5, b1, b2, b3⟩ := b_sk H B5 (k := 15) (by decide)
        rw [z_skr_f w] at b2
        obtain ⟨v, s6, c1, c2, c3, -⟩ := b_nd H b2 (k := 14) (by decide)
        rw [x_sI (by omega) (by rw [(m_at a2.1 m_k1409).2]; exact hp), x_nn, show (16 : Int32) = z_km 15 from rfl, b1, x_c, z_skr_f w, if_pos (show z_g false = 0 from rfl), x_nn, show (15 : Int32) = z_km 14 from rfl, c1, x_c] at start
        rw [if_neg w]
        refine ⟨s6, c2, ((o4.sI (by decide) _).as b3).as c3, ?_, start⟩
        rw [c3.1, b3.1, x_AI_AI, if_pos ⟨rfl, rfl⟩, if_neg (by rw [decide_eq_true_eq]; exact w)]
    obtain ⟨s5, g1, g2, g3, g4⟩ := e35
    obtain ⟨v1, t2, b1, b2, b3, -⟩ := b_nd H g1 (k := 16) (by decide)
    obtain ⟨v3, t4, c1, c2, c3, -⟩ := b_nd H b2 (k := 17) (by decide)
    obtain ⟨v6, t7, d1, d2, d3, d4⟩ := b_nd H c2 (k := 36) (by decide)
    have B8 : M_b n kd pl vl (g_setAI t7 1492 p v6) _ := d2.sI (by decide) (by decide) _ _
    obtain ⟨v9, t10, e1, e2, e3, -⟩ := b_nd H B8 (k := 18) (by decide)
    obtain ⟨v12, t13, h1, h2, h3, h4⟩ := b_nd H e2 (k := 36) (by decide)
    unfold f_M_readTrails_52 at g4
    rw [x_nn, show (17 : Int32) = z_km 16 from rfl, b1, x_c, x_nn, show (18 : Int32) = z_km 17 from rfl, c1, x_c, x_gR, (m_at c2.1 m_k1473).1, x_nn, show (30 : Int32) = z_km 36 from rfl, d1, x_c, x_sI (by omega) (by rw [(m_at d2.1 m_k1473).2]; exact hp), x_nn, show (19 : Int32) = z_km 18 from rfl, e1, x_c, x_gR, (m_at e2.1 m_k1537).1, x_nn, h1, x_c, x_sI (by omega) (by rw [(m_at h2.1 m_k1537).2]; exact hp)] at g4
    refine fin (g_setAI t13 1556 p v12) _ _ (h2.sI (by decide) (by decide) _ _) (((((((g2.as b3).as c3).as d3).sI (by decide) _).as e3).as h3).sI (by decide) _) (fun q hq => ?_) (z_sea_t f3) g4
    obtain ⟨q1, w1, w2, w3⟩ := z_ndr_ok hq
    obtain ⟨q2, w4, w5, w6⟩ := z_ndr_ok w1
    obtain ⟨q3, w7, w8, w9⟩ := z_ndr_ok w4
    obtain ⟨q4, w10, w11, w12⟩ := z_ndr_ok w7
    obtain ⟨q5, w13, w14, w15⟩ := z_ndr_ok w10
    have q6 : q5 = p0 + 1 + 1 := by
      by_cases w : kd (p0 + 1) = 15
      · rw [if_pos w] at w13; cases w13; rfl
      · rw [if_neg w] at w13
        obtain ⟨q6, y1, y2, y3⟩ := z_ndr_ok w13
        cases y1; exact y3
    refine ⟨⟨?_, ?_, ?_⟩, p0, f1, by omega⟩
    · rw [x_AI_AI, if_neg (fun y => by have := y.1; omega), h3.1, e3.1, x_AI_AI, if_neg (fun y => by have := y.1; omega), d3.1, c3.1, b3.1]
      exact g3
    · rw [x_AI_AI, if_neg (fun y => by have := y.1; omega), h3.1, e3.1, x_AI_AI, if_pos ⟨rfl, rfl⟩, d4 q3 w7 w8, show q3 = p0 + 1 + 3 by omega]
    · rw [x_AI_AI, if_pos ⟨rfl, rfl⟩, h4 q1 w1 w2, show q1 = p0 + 1 + 5 by omega]
end
