/-! THE ENGINE READS AN EXPRESSION -/
/-- the terms from number i on are a chain -/
def E_ex (pl : Nat → Nat) (wd : Nat → Int64) (u : g_St) (i : Nat) (sel top : Option Nat) (L : z_Ex) : Prop := ∀ j, j < L.length → E_te pl wd u ((i + j) * 64 + 11) sel top (L.getD j (false, 0, 0)) ∧ g_R u 651 ((i + j) * 64 + 11) = (if j + 1 < L.length then some ((i + j + 1) * 64 + 11) else none)
theorem E_ex.sm {pl : Nat → Nat} {wd : Nat → Int64} {u v : g_St} {i : Nat} {sel top : Option Nat} {L : z_Ex} (h : E_ex pl wd u i sel top L) (s : ∀ j, j < L.length → E_sm u v ((i + j) * 64 + 11)) : E_ex pl wd v i sel top L := fun j hj => ⟨(h j hj).1.sm (s j hj), by rw [((s j hj).1 _).2.2]; exact (h j hj).2⟩
theorem E_ex.kp {pl : Nat → Nat} {wd : Nat → Int64} {u v : g_St} {i : Nat} {sel top : Option Nat} {L : z_Ex} (h : E_ex pl wd u i sel top L) (hc : i + L.length ≤ g_cnt u 11) {X : List Nat} (k : E_kp X u v) (hX : ∀ a ∈ X, a % 64 ≠ 11) : E_ex pl wd v i sel top L := h.sm (fun j hj => k.at (by rw [E_alc (by decide)]; omega) (by rw [(E_num (by decide)).2]; decide) (fun q => hX _ q (E_num (by decide)).2))
/-- a term's fields but the next -/
def E_tm (u v : g_St) (t : Nat) : Prop := ∀ k, g_I v k t = g_I u k t ∧ g_L v k t = g_L u k t ∧ (k ≠ 651 → g_R v k t = g_R u k t)
theorem E_sm.tm {u v : g_St} {t : Nat} (h : E_sm u v t) : E_tm u v t := fun k => ⟨(h.1 k).1, (h.1 k).2.1, fun _ => (h.1 k).2.2⟩
theorem E_tm.trans {u v w : g_St} {t : Nat} (h : E_tm u v t) (g : E_tm v w t) : E_tm u w t := fun k => ⟨(g k).1.trans (h k).1, (g k).2.1.trans (h k).2.1, fun q => ((g k).2.2 q).trans ((h k).2.2 q)⟩
theorem E_te.tm {pl : Nat → Nat} {wd : Nat → Int64} {u v : g_St} {t : Nat} {sel top : Option Nat} {x : Bool × Nat × Nat} (h : E_te pl wd u t sel top x) (s : E_tm u v t) : E_te pl wd v t sel top x := by
  unfold E_te at *
  rw [(s 11).1, (s 75).1, (s 139).2.2 (by decide), (s 203).2.2 (by decide), (s 267).2.1, (s 331).2.1, (s 395).2.1, (s 523).2.2 (by decide), (s 587).1, (s 459).1]
  exact h
def z_exq (kd : Nat → Nat) (d p : Nat) : z_P := match z_ex kd d p with
  | .inl q => .inl q
  | .inr x => .inr x.2
section
variable {n : Nat} {kd pl : Nat → Nat} {wd : Nat → Int64} {c : z_Cx}
theorem z_ex_s {d p : Nat} (mn : Bool) (h : kd p = if mn = true then 30 else 29) : z_ex kd (d + 1) p = z_bd (z_op1 kd (p + 1)) fun o p1 => z_bd (z_ex kd d p1) fun l p2 => .inr ((mn, o) :: l, p2) := by
  cases mn with
  | true => rw [if_pos rfl] at h; rw [z_ex, if_pos h]
  | false => rw [if_neg (by decide)] at h; rw [z_ex, if_neg (by omega), if_pos h]
theorem a_exS {s : g_St} {q w f : Nat} {t0 tl : Option Nat} {x : Int32} (h : E_b n kd pl wd c s (.inl q) w) : f_Re_expression_10 (f + 1) (some 2) t0 tl x s = some (t0, s) := by
  rw [f_Re_expression_10]
  by_cases w : 4 ≤ x
  · rw [if_pos w]
  · rw [if_neg w, x_nn, pE_acceptS h.2.2.1.1, x_c, if_pos rfl, x_nn, pE_acceptS h.2.2.1.1, x_c, if_pos rfl]
theorem a_exl (Z : E_cx c) (H : z_H n kd) (hwd : ∀ i, i < n → kd i = 36 → wd i ≠ 0) {D : Nat} (hD : D ≤ 40) (t0 : Option Nat) : ∀ (d k p il f : Nat) (s : g_St), k + d = 4 → 1 ≤ k → d + 2 ≤ f → E_b n kd pl wd c s (.inr p) (3 * p + D) → g_cnt s 11 = il + 1 → c.2.2.2.1 11 ≤ il → g_R s 651 (il * 64 + 11) = none →
    ∃ u', f_Re_expression_10 f (some 2) t0 (some (il * 64 + 11)) (Int32.ofNat k) s = some (t0, u') ∧ E_b n kd pl wd c u' (z_exq kd d p) (3 * z_pk (z_exq kd d p) + D + z_sl (z_exq kd d p) 6) ∧ E_kp [il * 64 + 11] s u' ∧ E_ct [11] s u' ∧ g_R u' 514 2 = g_R s 514 2 ∧ g_R u' 578 2 = g_R s 578 2 ∧ p ≤ z_pk (z_exq kd d p) ∧ E_tm s u' (il * 64 + 11) ∧ ∀ L q, z_ex kd d p = .inr (L, q) → g_cnt u' 11 = il + 1 + L.length ∧ E_ex pl wd u' (il + 1) (g_R s 514 2) (g_R s 578 2) L ∧ g_R u' 651 (il * 64 + 11) = (if 0 < L.length then some ((il + 1) * 64 + 11) else none) := by
  intro d
  induction d with
  | zero =>
    intro k p il f s h1 h2 h3 h4 h5 h6 h7
    obtain ⟨f, rfl⟩ : ∃ m, f = m + 1 := ⟨f - 1, by omega⟩
    have e : z_ex kd 0 p = .inr ([], p) := rfl
    have e2 : z_exq kd 0 p = .inr p := rfl
    rw [e2]
    refine ⟨s, ?_, h4, E_kp.re, E_ct.re, rfl, rfl, Nat.le_refl _, E_sm.re.tm, fun L q hq => ?_⟩
    · rw [f_Re_expression_10, if_pos (by rw [show k = 4 by omega]; decide)]
    · rw [e] at hq
      cases hq
      exact ⟨h5, (fun j hj => by cases hj), h7⟩
  | succ d ih =>
    intro k p il f s h1 h2 h3 h4 h5 h6 h7
    obtain ⟨f, rfl⟩ : ∃ m, f = m + 2 := ⟨f - 2, by omega⟩
    have n4 : ¬ (4 : Int32) ≤ Int32.ofNat k := by rw [show (4 : Int32) = Int32.ofNat 4 from rfl, x_le (by omega) (by omega)]; omega
    have tl2 : il * 64 + 11 ≠ 2 := by omega
    -- after a sign
    have step : ∀ (mn : Bool) (s2 : g_St), E_as s s2 → E_b n kd pl wd c s2 (.inr (p + 1)) (3 * p + D) → (kd p = if mn = true then 30 else 29) → f_Re_expression_10 (f + 2) (some 2) t0 (some (il * 64 + 11)) (Int32.ofNat k) s = f_Re_expression_42 (f_Re_expression_10 (f + 1)) (some 2) t0 (some (il * 64 + 11)) (Int32.ofNat k) (z_g mn) s2 →
        ∃ u', f_Re_expression_10 (f + 2) (some 2) t0 (some (il * 64 + 11)) (Int32.ofNat k) s = some (t0, u') ∧ E_b n kd pl wd c u' (z_exq kd (d + 1) p) (3 * z_pk (z_exq kd (d + 1) p) + D + z_sl (z_exq kd (d + 1) p) 6) ∧ E_kp [il * 64 + 11] s u' ∧ E_ct [11] s u' ∧ g_R u' 514 2 = g_R s 514 2 ∧ g_R u' 578 2 = g_R s 578 2 ∧ p ≤ z_pk (z_exq kd (d + 1) p) ∧ E_tm s u' (il * 64 + 11) ∧ ∀ L q, z_ex kd (d + 1) p = .inr (L, q) → g_cnt u' 11 = il + 1 + L.length ∧ E_ex pl wd u' (il + 1) (g_R s 514 2) (g_R s 578 2) L ∧ g_R u' 651 (il * 64 + 11) = (if 0 < L.length then some ((il + 1) * 64 + 11) else none) := by
      intro mn s2 g1 g2 g3 g4
      have B2 : E_b n kd pl wd c s2 (.inr (p + 1)) (3 * z_pk (.inr (p + 1)) + D) := g2.mono (by show 3 * p + D ≤ 3 * (p + 1) + D; omega)
      obtain ⟨s4, a1, a2, a3, a4, a5, a6, a7, a8, a9, a10⟩ := a_op Z H hwd B2 hD mn
      have c2 : g_cnt s2 11 = il + 1 := by rw [g1.1, h5]
      rw [c2] at a1 a5 a8 a10
      rw [g1.2.2.2.2.1] at a6 a7 a10
      have nwl : E_nw c (il * 64 + 11) := by unfold E_nw; rw [(E_num (by decide)).1, (E_num (by decide)).2]; exact ⟨by decide, by decide, by decide, h6⟩
      obtain ⟨s5, e5⟩ : ∃ s5, s5 = g_setR s4 651 (il * 64 + 11) (some ((il + 1) * 64 + 11)) := ⟨_, rfl⟩
      have st : f_Re_expression_10 (f + 2) (some 2) t0 (some (il * 64 + 11)) (Int32.ofNat k) s = f_Re_expression_10 (f + 1) (some 2) t0 (some ((il + 1) * 64 + 11)) (Int32.ofNat (k + 1)) s5 := by
        rw [g4]
        unfold f_Re_expression_42
        rw [x_nn, a1, x_c, x_pR, ← e5, x_gR, show g_R s5 651 (il * 64 + 11) = some ((il + 1) * 64 + 11) from (by rw [e5, x_R_R, if_pos ⟨rfl, rfl⟩]), x_p1]
      have al : g_al s2 (il * 64 + 11) := by rw [E_alc (by decide), c2]; omega
      have sl4 : E_sm s s4 (il * 64 + 11) := (g1.sm tl2).trans (a3.at al (by rw [(E_num (by decide)).2]; decide) (by simp))
      have tm5 : E_tm s s5 (il * 64 + 11) := fun k => by
        rw [e5]
        exact ⟨(sl4.1 k).1, (sl4.1 k).2.1, fun q => by rw [x_R_R, if_neg (fun y => q y.1)]; exact (sl4.1 k).2.2⟩
      have K5 : E_kp [il * 64 + 11] s s5 := by
        rw [e5]
        exact ((g1.kp _).trans a3 (fun a ha => by cases ha)).pR ⟨tl2, Or.inl (List.mem_singleton.mpr rfl)⟩ _ _
      have C5 : E_ct [11] s s5 := fun t h1 h2 => by
        rw [e5]
        show g_cnt s4 t = _
        rw [a4 t h1 h2, g1.1]
      have c5 : g_cnt s5 11 = (il + 1) + 1 := by rw [e5]; exact a5
      have B5 : ∀ w, E_b n kd pl wd c s4 (z_opp kd (.inr (p + 1))) w → E_b n kd pl wd c s5 (z_opp kd (.inr (p + 1))) w := fun w hw => by rw [e5]; exact hw.pR Z nwl (by decide) (by decide) _
      have r5 : g_R s5 514 2 = g_R s 514 2 ∧ g_R s5 578 2 = g_R s 578 2 := by
        rw [e5, x_R_R, if_neg (fun q => by have := q.1; omega), x_R_R, if_neg (fun q => by have := q.1; omega)]
        exact ⟨a6, a7⟩
      have n5 : g_R s5 651 ((il + 1) * 64 + 11) = none := by rw [e5, x_R_R, if_neg (fun q => by have := q.2; omega)]; exact a8
      have ez := z_ex_s (d := d) mn g3
      cases ho : z_op1 kd (p + 1) with
      | inl q =>
        have eo : z_opp kd (.inr (p + 1)) = .inl q := by unfold z_opp; simp only []; rw [ho]
        have ee : z_ex kd (d + 1) p = .inl q := by rw [ez, ho]; rfl
        have eq : z_exq kd (d + 1) p = .inl q := by unfold z_exq; rw [ee]
        have B := B5 _ a2
        rw [eo] at B a9
        rw [eq]
        have hq : p + 1 ≤ q := a9
        refine ⟨s5, by rw [st, a_exS B], B, K5, C5, r5.1, r5.2, by show p ≤ q; omega, tm5, fun L q' w => ?_⟩
        rw [ee] at w; cases w
      | inr x =>
        obtain ⟨o, p1⟩ := x
        have eo : z_opp kd (.inr (p + 1)) = .inr p1 := by unfold z_opp; simp only []; rw [ho]
        have B := B5 _ a2
        rw [eo] at B a9
        have hq : p + 1 ≤ p1 := a9
        obtain ⟨-, te⟩ := a10 (p + 1) o p1 rfl ho
        obtain ⟨u', b1, b2, b3, b4, b5, b6, b7, b8, b9⟩ := ih (k + 1) p1 (il + 1) (f + 1) s5 (by omega) (by omega) (by omega) B c5 (by omega) n5
        have eq : z_exq kd (d + 1) p = z_exq kd d p1 := by
          unfold z_exq
          rw [ez, ho, z_bd_r]
          cases z_ex kd d p1 with
          | inl y => rfl
          | inr y => rfl
        rw [eq]
        have al5 : g_al s5 (il * 64 + 11) := by rw [E_alc (by decide), c5]; omega
        have smu : E_sm s5 u' (il * 64 + 11) := b3.at al5 (by rw [(E_num (by decide)).2]; decide) (fun q => by have := List.mem_singleton.mp q; omega)
        refine ⟨u', by rw [st, b1], b2, K5.trans b3 (fun a ha => Or.inr (by rw [List.mem_singleton.mp ha, E_alc (by decide), h5]; omega)), C5.trans b4 (fun t ht => ht), b5.trans r5.1, b6.trans r5.2, by omega, tm5.trans smu.tm, fun L q' w => ?_⟩
        rw [ez, ho] at w
        have w' : z_bd (z_ex kd d p1) (fun l p2 => .inr ((mn, o) :: l, p2)) = (.inr (L, q') : z_R z_Ex) := w
        cases hx : z_ex kd d p1 with
        | inl y => rw [hx] at w'; cases w'
        | inr y =>
          obtain ⟨l, p2⟩ := y
          rw [hx] at w'
          have w2 : (.inr ((mn, o) :: l, p2) : z_R z_Ex) = .inr (L, q') := w'
          cases w2
          obtain ⟨d1, d2, d3⟩ := b9 l _ hx
          rw [r5.1, r5.2] at d2
          refine ⟨by rw [d1, List.length_cons]; omega, fun j hj => ?_, ?_⟩
          · cases j with
            | zero =>
              refine ⟨?_, ?_⟩
              · have te5 : E_te pl wd s5 ((il + 1) * 64 + 11) (g_R s 514 2) (g_R s 578 2) (mn, o) := by
                  refine te.sm ?_
                  rw [e5]
                  exact E_sm.re.pR _ _ (by omega)
                exact te5.tm b8
              · rw [List.length_cons]
                show g_R u' 651 ((il + 1) * 64 + 11) = _
                rw [d3]
                by_cases y : 0 < l.length
                · rw [if_pos y, if_pos (by omega)]
                · rw [if_neg y, if_neg (by omega)]
            | succ j =>
              have hj' : j < l.length := by rw [List.length_cons] at hj; omega
              obtain ⟨x1, x2⟩ := d2 j hj'
              rw [show il + 1 + (j + 1) = il + 1 + 1 + j by omega]
              refine ⟨x1, ?_⟩
              rw [x2, List.length_cons]
              by_cases y : j + 1 < l.length
              · rw [if_pos y, if_pos (by omega)]
              · rw [if_neg y, if_neg (by omega)]
          · rw [if_pos (by rw [List.length_cons]; omega), (smu.1 651).2.2, e5, x_R_R, if_pos ⟨rfl, rfl⟩]
    obtain ⟨s2, a1, a2, a3⟩ := a_ac Z H h4 (k := 30) (by decide)
    by_cases w1 : kd p = 30
    · rw [z_skr_t w1] at a1 a2
      refine step true s2 a3 a2 (by rw [if_pos rfl]; exact w1) ?_
      rw [f_Re_expression_10, if_neg n4, x_nn, show (1933 : Nat) = 30 * 64 + 13 from rfl, a1, x_c, if_neg (show ¬ z_g true = 0 by decide)]
    · rw [z_skr_f w1] at a1 a2
      obtain ⟨s4, b1, b2, b3⟩ := a_ac Z H a2 (k := 29) (by decide)
      by_cases w2 : kd p = 29
      · rw [z_skr_t w2] at b1 b2
        refine step false s4 (a3.trans b3) b2 (by rw [if_neg (by decide)]; exact w2) ?_
        rw [f_Re_expression_10, if_neg n4, x_nn, show (1933 : Nat) = 30 * 64 + 13 from rfl, a1, x_c, if_pos (show z_g false = 0 from rfl), x_nn, show (1869 : Nat) = 29 * 64 + 13 from rfl, b1, x_c, if_neg (show ¬ z_g true = 0 by decide)]
      · rw [z_skr_f w2] at b1 b2
        have e : z_ex kd (d + 1) p = .inr ([], p) := by rw [z_ex, if_neg w1, if_neg w2]
        have e2 : z_exq kd (d + 1) p = .inr p := by unfold z_exq; rw [e]
        have A := a3.trans b3
        rw [e2]
        refine ⟨s4, ?_, b2, A.kp _, E_ct.as A, by rw [A.2.2.2.2.1], by rw [A.2.2.2.2.1], Nat.le_refl _, (A.sm tl2).tm, fun L q hq => ?_⟩
        · rw [f_Re_expression_10, if_neg n4, x_nn, show (1933 : Nat) = 30 * 64 + 13 from rfl, a1, x_c, if_pos (show z_g false = 0 from rfl), x_nn, show (1869 : Nat) = 29 * 64 + 13 from rfl, b1, x_c, if_pos (show z_g false = 0 from rfl)]
        · rw [e] at hq
          cases hq
          exact ⟨by rw [A.1]; exact h5, (fun j hj => by cases hj), by rw [A.2.2.2.2.1]; exact h7⟩
/-- an expression -/
theorem a_exp (Z : E_cx c) (H : z_H n kd) (hwd : ∀ i, i < n → kd i = 36 → wd i ≠ 0) {u : g_St} {r : z_P} {d : Nat} (h : E_b n kd pl wd c u r (3 * z_pk r + d)) (hd : d ≤ 40) :
    ∃ u', f_Re_expression (some 2) u = some (some (g_cnt u 11 * 64 + 11), u') ∧ E_b n kd pl wd c u' (z_exr kd r).2 (3 * z_pk (z_exr kd r).2 + d + z_sl (z_exr kd r).2 6) ∧ E_kp [] u u' ∧ E_ct [11] u u' ∧ g_R u' 514 2 = g_R u 514 2 ∧ g_R u' 578 2 = g_R u 578 2 ∧ z_pk r ≤ z_pk (z_exr kd r).2 ∧ g_cnt u 11 < g_cnt u' 11 ∧ ∀ q, (z_exr kd r).2 = .inr q → E_ex pl wd u' (g_cnt u 11) (g_R u 514 2) (g_R u 578 2) (z_exr kd r).1 ∧ g_cnt u' 11 = g_cnt u 11 + (z_exr kd r).1.length ∧ 1 ≤ (z_exr kd r).1.length := by
  obtain ⟨s2, a1, a2, a3, a4, a5, a6, a7, a8, a9, a10⟩ := a_op Z H hwd h hd false
  have st : f_Re_expression (some 2) u = f_Re_expression_10 200000 (some 2) (some (g_cnt u 11 * 64 + 11)) (some (g_cnt u 11 * 64 + 11)) (Int32.ofNat 1) s2 := by
    unfold f_Re_expression
    rw [x_nn, show (0 : Int32) = z_g false from rfl, a1, x_c]
    rfl
  cases hr : r with
  | inl q =>
    rw [hr] at a2
    have e : z_exr kd (.inl q) = ([], .inl q) := rfl
    rw [e]
    exact ⟨s2, by rw [st]; exact a_exS (f := 199999) a2, a2, a3, a4, a6, a7, Nat.le_refl _, by omega, fun q w => by cases w⟩
  | inr p =>
    rw [hr] at a2 a9
    cases ho : z_op1 kd p with
    | inl q =>
      have eo : z_opp kd (.inr p) = .inl q := by unfold z_opp; simp only []; rw [ho]
      have ee : z_exr kd (.inr p) = ([], .inl q) := by unfold z_exr z_expr; simp only []; rw [ho]; rfl
      rw [eo] at a2 a9
      rw [ee]
      exact ⟨s2, by rw [st]; exact a_exS (f := 199999) a2, a2, a3, a4, a6, a7, a9, by omega, fun q w => by cases w⟩
    | inr x =>
      obtain ⟨o, p1⟩ := x
      have eo : z_opp kd (.inr p) = .inr p1 := by unfold z_opp; simp only []; rw [ho]
      rw [eo] at a2 a9
      have hp1 : p ≤ p1 := a9
      obtain ⟨-, te⟩ := a10 p o p1 hr ho
      obtain ⟨u', b1, b2, b3, b4, b5, b6, b7, b8, b9⟩ := a_exl Z H hwd hd (some (g_cnt u 11 * 64 + 11)) 3 1 p1 (g_cnt u 11) 200000 s2 rfl (by omega) (by omega) a2 a5 (h.2.2.2.2.2.1.1 11) a8
      have ee : (z_exr kd (.inr p)).2 = z_exq kd 3 p1 := by
        unfold z_exr z_expr z_exq
        simp only []
        rw [ho, z_bd_r]
        cases z_ex kd 3 p1 with
        | inl y => rfl
        | inr y => rfl
      rw [ee]
      refine ⟨u', by rw [st, b1], b2, a3.trans b3 (fun a ha => Or.inr (by rw [List.mem_singleton.mp ha]; exact E_nal (by decide))), a4.trans b4 (fun t ht => ht), b5.trans a6, b6.trans a7, by show p ≤ _; omega, Nat.lt_of_lt_of_le (by omega : g_cnt u 11 < g_cnt s2 11) (b3.1 11), fun q hq => ?_⟩
      have hx : ∃ l, z_ex kd 3 p1 = .inr (l, q) ∧ z_exr kd (.inr p) = ((false, o) :: l, .inr q) := by
        unfold z_exq at hq
        unfold z_exr z_expr
        simp only []
        rw [ho, z_bd_r]
        cases hy : z_ex kd 3 p1 with
        | inl y => rw [hy] at hq; cases hq
        | inr y =>
          obtain ⟨l, p2⟩ := y
          rw [hy] at hq
          cases hq
          exact ⟨l, rfl, rfl⟩
      obtain ⟨l, x1, x2⟩ := hx
      obtain ⟨d1, d2, d3⟩ := b9 l q x1
      rw [a6, a7] at d2
      rw [x2]
      refine ⟨fun j hj => ?_, by rw [d1, List.length_cons]; omega, by rw [List.length_cons]; omega⟩
      cases j with
      | zero =>
        refine ⟨te.tm b8, ?_⟩
        rw [List.length_cons]
        show g_R u' 651 (g_cnt u 11 * 64 + 11) = _
        rw [d3]
        by_cases y : 0 < l.length
        · rw [if_pos y, if_pos (by omega)]
        · rw [if_neg y, if_neg (by omega)]
      | succ j =>
        have hj' : j < l.length := by
          have : j + 1 < l.length + 1 := by rw [← List.length_cons]; exact hj
          omega
        obtain ⟨y1, y2⟩ := d2 j hj'
        rw [show g_cnt u 11 + (j + 1) = g_cnt u 11 + 1 + j by omega]
        refine ⟨y1, ?_⟩
        rw [y2, List.length_cons]
        by_cases y : j + 1 < l.length
        · rw [if_pos y, if_pos (by omega)]
        · rw [if_neg y, if_neg (by omega)]
end
