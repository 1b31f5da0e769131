/-! THE ENGINE READS A COMPARISON -/
def z_nb (b : z_Bs) : Nat := b.1.length + b.2.2.length
def E_cb (pl : Nat → Nat) (wd : Nat → Int64) (u : g_St) (co i : Nat) (sel top : Option Nat) (b : z_Bs) : Prop := i + z_nb b ≤ g_cnt u 11 ∧ g_R u 74 co = some (i * 64 + 11) ∧ E_ex pl wd u i sel top b.1 ∧ 1 ≤ b.1.length ∧ g_R u 10 co = some (b.2.1 * 64 + 13) ∧ ((b.2.1 = 9 ∧ b.2.2 = [] ∧ g_R u 138 co = none) ∨ ((b.2.1 = 31 ∨ b.2.1 = 32 ∨ b.2.1 = 33 ∨ b.2.1 = 35) ∧ 1 ≤ b.2.2.length ∧ g_R u 138 co = some ((i + b.1.length) * 64 + 11) ∧ E_ex pl wd u (i + b.1.length) sel top b.2.2))
theorem E_cb.sm {pl : Nat → Nat} {wd : Nat → Int64} {u v : g_St} {co i : Nat} {sel top : Option Nat} {b : z_Bs} (h : E_cb pl wd u co i sel top b) (s : E_sm u v co) {X : List Nat} (k : E_kp X u v) (hX : ∀ a ∈ X, a % 64 ≠ 11) : E_cb pl wd v co i sel top b := by
  obtain ⟨h1, h2, h3, h4, h5, h6⟩ := h
  have hb : i + b.1.length ≤ g_cnt u 11 ∧ (i + b.1.length) + b.2.2.length ≤ g_cnt u 11 := by unfold z_nb at h1; omega
  refine ⟨Nat.le_trans h1 (k.1 11), by rw [(s.1 _).2.2]; exact h2, h3.kp hb.1 k hX, h4, by rw [(s.1 _).2.2]; exact h5, ?_⟩
  rcases h6 with ⟨a, b, c⟩ | ⟨a, b, c, e⟩
  · exact Or.inl ⟨a, b, by rw [(s.1 _).2.2]; exact c⟩
  · exact Or.inr ⟨a, b, by rw [(s.1 _).2.2]; exact c, e.kp hb.2 k hX⟩
section
variable {n : Nat} {kd pl : Nat → Nat} {wd : Nat → Int64} {c : z_Cx}
theorem z_skr_c (k : Nat) (r : z_P) : ((z_skr kd k r).1 = true ∧ ∃ p, r = .inr p ∧ kd p = k ∧ z_skr kd k r = (true, .inr (p + 1))) ∨ ((z_skr kd k r).1 = false ∧ z_skr kd k r = (false, r) ∧ ∀ p, r = .inr p → kd p ≠ k) := by
  cases r with
  | inl q => exact Or.inr ⟨rfl, rfl, fun p e => by cases e⟩
  | inr p =>
    by_cases w : kd p = k
    · rw [z_skr_t w]; exact Or.inl ⟨rfl, p, rfl, w, rfl⟩
    · rw [z_skr_f w]; exact Or.inr ⟨rfl, rfl, fun p' e => by cases e; exact w⟩
/-- the four signs -/
theorem a_sgn (Z : E_cx c) (H : z_H n kd) {u : g_St} {r : z_P} {w : Nat} (h : E_b n kd pl wd c u r w) {α : Type} (A B : g_St → Option α) :
    ∃ u', E_as u u' ∧ ((∃ p, r = .inr p ∧ (kd p = 31 ∨ kd p = 32 ∨ kd p = 33 ∨ kd p = 35) ∧ E_b n kd pl wd c u' (.inr (p + 1)) w ∧ (g_c (g_nn (some 2) (f_Re_accept (some 2) (some 1997) u)) fun i10 s11 => if i10 = 0 then g_c (g_nn (some 2) (f_Re_accept (some 2) (some 2253) s11)) (fun i12 s13 => if i12 = 0 then g_c (g_nn (some 2) (f_Re_accept (some 2) (some 2061) s13)) (fun i14 s15 => if i14 = 0 then g_c (g_nn (some 2) (f_Re_accept (some 2) (some 2125) s15)) (fun i16 s17 => if i16 = 0 then B s17 else A s17) else A s15) else A s13) else A s11) = A u') ∨
      ((∀ p, r = .inr p → ¬ (kd p = 31 ∨ kd p = 32 ∨ kd p = 33 ∨ kd p = 35)) ∧ E_b n kd pl wd c u' r w ∧ (g_c (g_nn (some 2) (f_Re_accept (some 2) (some 1997) u)) fun i10 s11 => if i10 = 0 then g_c (g_nn (some 2) (f_Re_accept (some 2) (some 2253) s11)) (fun i12 s13 => if i12 = 0 then g_c (g_nn (some 2) (f_Re_accept (some 2) (some 2061) s13)) (fun i14 s15 => if i14 = 0 then g_c (g_nn (some 2) (f_Re_accept (some 2) (some 2125) s15)) (fun i16 s17 => if i16 = 0 then B s17 else A s17) else A s15) else A s13) else A s11) = B u')) := by
  have T : ¬ z_g true = 0 := by decide
  have F : z_g false = 0 := rfl
  obtain ⟨s1, a1, a2, a3⟩ := a_ac Z H h (k := 31) (by decide)
  rw [x_nn, show (1997 : Nat) = 31 * 64 + 13 from rfl, a1, x_c]
  rcases z_skr_c 31 r with ⟨w1, p, e1, e2, e3⟩ | ⟨w1, e1, e2⟩
  · rw [w1, if_neg T]
    rw [e3] at a2
    exact ⟨s1, a3, Or.inl ⟨p, e1, by omega, a2, rfl⟩⟩
  · rw [w1, if_pos F]
    rw [e1] at a2
    obtain ⟨s2, b1, b2, b3⟩ := a_ac Z H a2 (k := 35) (by decide)
    rw [x_nn, show (2253 : Nat) = 35 * 64 + 13 from rfl, b1, x_c]
    rcases z_skr_c 35 r with ⟨w2, p, f1, f2, f3⟩ | ⟨w2, f1, f2⟩
    · rw [w2, if_neg T]
      rw [f3] at b2
      exact ⟨s2, a3.trans b3, Or.inl ⟨p, f1, by omega, b2, rfl⟩⟩
    · rw [w2, if_pos F]
      rw [f1] at b2
      obtain ⟨s3, c1, c2, c3⟩ := a_ac Z H b2 (k := 32) (by decide)
      rw [x_nn, show (2061 : Nat) = 32 * 64 + 13 from rfl, c1, x_c]
      rcases z_skr_c 32 r with ⟨w3, p, g1, g2, g3⟩ | ⟨w3, g1, g2⟩
      · rw [w3, if_neg T]
        rw [g3] at c2
        exact ⟨s3, (a3.trans b3).trans c3, Or.inl ⟨p, g1, by omega, c2, rfl⟩⟩
      · rw [w3, if_pos F]
        rw [g1] at c2
        obtain ⟨s4, d1, d2, d3⟩ := a_ac Z H c2 (k := 33) (by decide)
        rw [x_nn, show (2125 : Nat) = 33 * 64 + 13 from rfl, d1, x_c]
        rcases z_skr_c 33 r with ⟨w4, p, k1, k2, k3⟩ | ⟨w4, k1, k2⟩
        · rw [w4, if_neg T]
          rw [k3] at d2
          exact ⟨s4, ((a3.trans b3).trans c3).trans d3, Or.inl ⟨p, k1, by omega, d2, rfl⟩⟩
        · rw [w4, if_pos F]
          rw [k1] at d2
          refine ⟨s4, ((a3.trans b3).trans c3).trans d3, Or.inr ⟨fun p hp => ?_, d2, rfl⟩⟩
          have := e2 p hp
          have := f2 p hp
          have := g2 p hp
          have := k2 p hp
          omega
/-- a condition's fields that a comparison doesn't write -/
def E_cm (u v : g_St) (co : Nat) : Prop := (∀ k, g_I v k co = g_I u k co ∧ g_L v k co = g_L u k co ∧ (k ≠ 10 → k ≠ 74 → k ≠ 138 → g_R v k co = g_R u k co)) ∧ g_ln v co = g_ln u co
theorem E_sm.cm {u v : g_St} {t : Nat} (h : E_sm u v t) : E_cm u v t := ⟨fun k => ⟨(h.1 k).1, (h.1 k).2.1, fun _ _ _ => (h.1 k).2.2⟩, h.2.2.2.2⟩
theorem E_cm.trans {u v w : g_St} {t : Nat} (h : E_cm u v t) (g : E_cm v w t) : E_cm u w t := ⟨fun k => ⟨(g.1 k).1.trans (h.1 k).1, (g.1 k).2.1.trans (h.1 k).2.1, fun a b c => ((g.1 k).2.2 a b c).trans ((h.1 k).2.2 a b c)⟩, g.2.trans h.2⟩
theorem E_cm.pR {u v : g_St} {t k : Nat} (h : E_cm u v t) (hk : k = 10 ∨ k = 74 ∨ k = 138) (x : Option Nat) : E_cm u (g_setR v k t x) t := ⟨fun k' => ⟨(h.1 k').1, (h.1 k').2.1, fun a b c => by rw [x_R_R, if_neg (fun q => by have := q.1; omega)]; exact (h.1 k').2.2 a b c⟩, h.2⟩
theorem a_cmp (Z : E_cx c) (H : z_H n kd) (hwd : ∀ i, i < n → kd i = 36 → wd i ≠ 0) {u : g_St} {r : z_P} {d k : Nat} (h : E_b n kd pl wd c u r (3 * z_pk r + (d + 1))) (hd : d ≤ 39) (hk : k < g_cnt u 10) (hkB : c.2.2.2.1 10 ≤ k) (h138 : g_R u 138 (k * 64 + 10) = none) :
    ∃ u', f_Re_comparison (some 2) (some (k * 64 + 10)) u = some ((), u') ∧ E_b n kd pl wd c u' (z_cor kd r).2 (3 * z_pk (z_cor kd r).2 + d + z_sl (z_cor kd r).2 7) ∧ E_kp [k * 64 + 10] u u' ∧ E_ct [11] u u' ∧ g_R u' 514 2 = g_R u 514 2 ∧ g_R u' 578 2 = g_R u 578 2 ∧ z_pk r ≤ z_pk (z_cor kd r).2 ∧ E_cm u u' (k * 64 + 10) ∧ ∀ q, (z_cor kd r).2 = .inr q → g_cnt u' 11 = g_cnt u 11 + z_nb (z_cor kd r).1 ∧ E_cb pl wd u' (k * 64 + 10) (g_cnt u 11) (g_R u 514 2) (g_R u 578 2) (z_cor kd r).1 := by
  obtain ⟨co, hco⟩ : ∃ co, co = k * 64 + 10 := ⟨_, rfl⟩
  rw [← hco]
  rw [← hco] at h138
  have co2 : co ≠ 2 := by omega
  have nw : E_nw c co := by unfold E_nw; rw [hco, (E_num (by decide)).1, (E_num (by decide)).2]; exact ⟨by decide, by decide, by decide, hkB⟩
  have cok : ∀ v : g_St, E_ok [co] v co := fun v => nw.ok v
  have comod : co % 64 = 10 := by rw [hco]; exact (E_num (by decide)).2
  have alc : ∀ v : g_St, g_cnt u 10 ≤ g_cnt v 10 → g_al v co := fun v hv => by rw [hco, E_alc (by decide)]; omega
  have km : co % 64 ≠ 12 ∧ co % 64 ≠ 30 ∧ co % 64 ≠ 2 := by rw [comod]; decide
  obtain ⟨s2, a1, a2, a3, a4, a5, a6, a7, a8, a9⟩ := a_exp Z H hwd h (by omega)
  have sc2 : E_sm u s2 co := a3.at (alc u (Nat.le_refl _)) km (by simp)
  have B3 := a2.pR Z nw (k := 74) (by decide) (by decide) (some (g_cnt u 11 * 64 + 11))
  obtain ⟨P1, P2, P3, P4, P5, P6, P7, P8, P9, P10, P11, -⟩ := a_pl H B3
  obtain ⟨s7, e7⟩ : ∃ s7, s7 = g_setR (g_setR s2 74 co (some (g_cnt u 11 * 64 + 11))) 10 co (some (kd (z_pk (z_exr kd r).2) * 64 + 13)) := ⟨_, rfl⟩
  have B7 : E_b n kd pl wd c s7 (z_exr kd r).2 (3 * z_pk (z_exr kd r).2 + (d + 1) + z_sl (z_exr kd r).2 6) := by rw [e7]; exact B3.pR Z nw (by decide) (by decide) _
  have K7 : E_kp [co] u s7 := by rw [e7]; exact ((a3.mono (fun a ha => by cases ha)).pR (cok u) _ _).pR (cok u) _ _
  have C7 : E_ct [11] u s7 := fun t h1 h2 => by rw [e7]; exact a4 t h1 h2
  have M7 : E_cm u s7 co := by rw [e7]; exact (sc2.cm.pR (by omega) _).pR (by omega) _
  have R7 : ∀ k, g_R s7 k 2 = g_R s2 k 2 := fun k => by rw [e7, x_R_R, if_neg (fun q => co2 q.2.symm), x_R_R, if_neg (fun q => co2 q.2.symm)]
  have r74 : g_R s7 74 co = some (g_cnt u 11 * 64 + 11) := by rw [e7, x_R_R, if_neg (fun q => by have := q.1; omega), x_R_R, if_pos ⟨rfl, rfl⟩]
  have r10 : g_R s7 10 co = some (kd (z_pk (z_exr kd r).2) * 64 + 13) := by rw [e7, x_R_R, if_pos ⟨rfl, rfl⟩]
  have r138 : g_R s7 138 co = none := by rw [e7, x_R_R, if_neg (fun q => by have := q.1; omega), x_R_R, if_neg (fun q => by have := q.1; omega), (sc2.1 138).2.2]; exact h138
  have n7 : g_cnt s7 = g_cnt s2 := by rw [e7]; rfl
  have X7 : ∀ q, (z_exr kd r).2 = .inr q → E_ex pl wd s7 (g_cnt u 11) (g_R u 514 2) (g_R u 578 2) (z_exr kd r).1 ∧ g_cnt s7 11 = g_cnt u 11 + (z_exr kd r).1.length ∧ 1 ≤ (z_exr kd r).1.length := fun q hq => by
    obtain ⟨b1, b2, b3⟩ := a9 q hq
    refine ⟨?_, by rw [n7]; exact b2, b3⟩
    rw [e7]
    exact b1.sm (fun j hj => ((E_sm.re.pR _ _ (by omega)).pR _ _ (by omega)))
  have st : f_Re_comparison (some 2) (some co) u = g_c (g_nn (some 2) (f_Re_accept (some 2) (some 589) s7)) fun i8 s9 => if i8 = 0 then (g_c (g_nn (some 2) (f_Re_accept (some 2) (some 1997) s9)) fun i10 s11 => if i10 = 0 then g_c (g_nn (some 2) (f_Re_accept (some 2) (some 2253) s11)) (fun i12 s13 => if i12 = 0 then g_c (g_nn (some 2) (f_Re_accept (some 2) (some 2061) s13)) (fun i14 s15 => if i14 = 0 then g_c (g_nn (some 2) (f_Re_accept (some 2) (some 2125) s15)) (fun i16 s17 => if i16 = 0 then (fun s => g_pZ s 386 (some 2) 1 fun s18 => some ((), s18)) s17 else (fun s => f_Re_comparison_81 (some 2) (some co) s) s17) else (fun s => f_Re_comparison_81 (some 2) (some co) s) s15) else (fun s => f_Re_comparison_81 (some 2) (some co) s) s13) else (fun s => f_Re_comparison_81 (some 2) (some co) s) s11) else g_c (g_nn (some 2) (f_Re_expect (some 2) (some 653) s9)) fun _ s20 => some ((), s20) := by
    unfold f_Re_comparison
    rw [x_nn, a1, x_c, x_pR, x_gR, P9, x_gI, P3, x_aR (by omega) (by rw [P10]; omega), P11, x_pR, ← e7]
  obtain ⟨s9, b1, b2, b3⟩ := a_ac Z H B7 (k := 9) (by decide)
  rw [x_nn, show (589 : Nat) = 9 * 64 + 13 from rfl, b1, x_c] at st
  have sc9 := b3.sm co2
  rcases z_skr_c 9 (z_exr kd r).2 with ⟨w1, q, f1, f2, f3⟩ | ⟨w1, f1, f2⟩
  · -- IS NULL
    rw [w1, if_neg (show ¬ z_g true = 0 by decide)] at st
    rw [f3] at b2
    obtain ⟨s20, c1, c2, c3⟩ := a_ex Z H b2 (k := 10) (by decide)
    rw [x_nn, show (653 : Nat) = 10 * 64 + 13 from rfl, c1, x_c] at st
    have ez : z_cor kd r = (((z_exr kd r).1, 9, []), z_ndr kd 10 (.inr (q + 1))) := by unfold z_cor; rw [if_pos w1, f3]
    rw [ez]
    have A := b3.trans c3
    have sA := A.sm co2
    have pq : z_pk r ≤ q := by rw [f1] at a7; exact a7
    have pk := z_pk_nd (kd := kd) 10 (.inr (q + 1))
    refine ⟨s20, st, ?_, K7.trans (A.kp [co]) (fun a ha => Or.inl ha), fun t h1 h2 => by rw [A.1]; exact C7 t h1 h2, by rw [A.2.2.2.2.1, R7]; exact a5, by rw [A.2.2.2.2.1, R7]; exact a6, by have : q + 1 ≤ z_pk (z_ndr kd 10 (.inr (q + 1))) := pk; show z_pk r ≤ z_pk (z_ndr kd 10 (.inr (q + 1))); omega, M7.trans sA.cm, fun q' hq => ?_⟩
    · refine c2.mono ?_
      rw [f1]
      show 3 * q + (d + 1) + 0 ≤ _
      have : q + 1 ≤ z_pk (z_ndr kd 10 (.inr (q + 1))) := pk
      show _ ≤ 3 * z_pk (z_ndr kd 10 (.inr (q + 1))) + d + _
      omega
    · obtain ⟨x1, x2, x3⟩ := X7 q f1
      refine ⟨by rw [A.1, x2]; rfl, by rw [A.1, x2]; exact Nat.le_refl _, by rw [(sA.1 _).2.2]; exact r74, x1.sm (fun j hj => A.sm (by omega)), x3, ?_, Or.inl ⟨rfl, rfl, by rw [(sA.1 _).2.2]; exact r138⟩⟩
      rw [(sA.1 _).2.2, r10, f1]
      show some (kd q * 64 + 13) = _
      rw [f2]
  · rw [w1, if_pos (show z_g false = 0 from rfl)] at st
    rw [f1] at b2
    have ez : z_cor kd r = (((z_exr kd r).1, kd (z_pk (z_exr kd r).2), (z_exr kd (z_opr kd (z_exr kd r).2)).1), (z_exr kd (z_opr kd (z_exr kd r).2)).2) := by unfold z_cor; rw [if_neg (by rw [w1]; decide)]
    rw [ez]
    obtain ⟨s11, c3, c4⟩ := a_sgn Z H b2 (fun s => f_Re_comparison_81 (some 2) (some co) s) (fun s => g_pZ s 386 (some 2) 1 fun s18 => some ((), s18))
    have A := b3.trans c3
    have sA := A.sm co2
    rcases c4 with ⟨q, g1, g2, g3, g4⟩ | ⟨g1, g2, g3⟩
    · rw [g4] at st
      have eo : z_opr kd (z_exr kd r).2 = .inr (q + 1) := by rw [g1]; unfold z_opr; simp only []; rw [if_pos g2]
      have epk : z_pk (z_exr kd r).2 = q := by rw [g1]; rfl
      have esl : z_sl (z_exr kd r).2 6 = 0 := by rw [g1]; rfl
      rw [eo]
      have B11 : E_b n kd pl wd c s11 (.inr (q + 1)) (3 * z_pk (.inr (q + 1)) + d) := g3.mono (by rw [epk, esl]; show 3 * q + (d + 1) + 0 ≤ 3 * (q + 1) + d; omega)
      obtain ⟨s12, k1, k2, k3, k4, k5, k6, k7, k8, k9⟩ := a_exp Z H hwd B11 (by omega)
      have al11 : g_al s11 co := alc s11 (by rw [A.1, n7]; exact a3.1 10)
      have sc12 : E_sm s11 s12 co := k3.at al11 km (by simp)
      have st2 : f_Re_comparison (some 2) (some co) u = some ((), g_setR s12 138 co (some (g_cnt s11 11 * 64 + 11))) := by
        rw [st]
        show f_Re_comparison_81 (some 2) (some co) s11 = _
        unfold f_Re_comparison_81
        rw [x_nn, k1, x_c, x_pR]
      have K11 : E_kp [co] u s11 := K7.trans (A.kp [co]) (fun a ha => Or.inl ha)
      rw [epk]
      have pq : z_pk r ≤ q := by rw [g1] at a7; exact a7
      refine ⟨_, st2, ?_, (K11.trans k3 (fun a ha => by cases ha)).pR (cok u) _ _, fun t h1 h2 => ?_, ?_, ?_, ?_, ((M7.trans sA.cm).trans sc12.cm).pR (by omega) _, fun q' hq => ?_⟩
      · refine (k2.pR Z nw (by decide) (by decide) _).mono ?_
        cases (z_exr kd (.inr (q + 1))).2 with
        | inl y => show 3 * y + d + 6 ≤ 3 * y + d + 7; omega
        | inr y => show 3 * y + d + 0 ≤ 3 * y + d + 0; omega
      · show g_cnt s12 t = _
        rw [k4 t h1 h2, A.1]
        exact C7 t h1 h2
      · show g_R (g_setR s12 138 co (some (g_cnt s11 11 * 64 + 11))) 514 2 = _
        rw [x_R_R, if_neg (fun q => co2 q.2.symm), k5, A.2.2.2.2.1, R7]; exact a5
      · rw [x_R_R, if_neg (fun q => co2 q.2.symm), k6, A.2.2.2.2.1, R7]; exact a6
      · have : q + 1 ≤ z_pk (z_exr kd (.inr (q + 1))).2 := k7
        show z_pk r ≤ z_pk (z_exr kd (.inr (q + 1))).2
        omega
      · obtain ⟨x1, x2, x3⟩ := X7 q g1
        obtain ⟨y1, y2, y3⟩ := k9 q' hq
        have r11 : g_R s11 514 2 = g_R u 514 2 ∧ g_R s11 578 2 = g_R u 578 2 := by rw [A.2.2.2.2.1, R7, R7]; exact ⟨a5, a6⟩
        rw [r11.1, r11.2] at y1
        have c11 : g_cnt s11 11 = g_cnt u 11 + (z_exr kd r).1.length := by rw [A.1, x2]
        rw [c11] at y1 y2
        have nbe : z_nb ((z_exr kd r).1, kd q, (z_exr kd (.inr (q + 1))).1) = (z_exr kd r).1.length + (z_exr kd (.inr (q + 1))).1.length := rfl
        have e12 : E_ex pl wd s12 (g_cnt u 11) (g_R u 514 2) (g_R u 578 2) (z_exr kd r).1 := (x1.sm (fun j hj => A.sm (by omega)) : E_ex pl wd s11 _ _ _ _).kp (by rw [c11]; exact Nat.le_refl _) k3 (fun a ha => by cases ha)
        refine ⟨?_, ?_, ?_, e12.sm (fun j hj => E_sm.re.pR _ _ (by omega)), x3, ?_, Or.inr ⟨g2, y3, ?_, y1.sm (fun j hj => E_sm.re.pR _ _ (by omega))⟩⟩
        · show g_cnt s12 11 = _
          rw [y2, nbe]; omega
        · show _ ≤ g_cnt s12 11
          rw [y2, nbe]; omega
        · rw [x_R_R, if_neg (fun q => by have := q.1; omega), (sc12.1 _).2.2, (sA.1 _).2.2]; exact r74
        · rw [x_R_R, if_neg (fun q => by have := q.1; omega), (sc12.1 _).2.2, (sA.1 _).2.2, r10, epk]
        · rw [x_R_R, if_pos ⟨rfl, rfl⟩, c11]
    · -- stuck
      have st2 : f_Re_comparison (some 2) (some co) u = some ((), g_setI s11 386 2 1) := by
        rw [st, g3]
        show g_pZ s11 386 (some 2) (z_g true) (fun s18 => some ((), s18)) = _
        rw [x_pZ]
        rfl
      have A2 : E_as s7 (g_setI s11 386 2 1) := A.trans (E_as.set (Or.inr rfl) _)
      have eo : ∃ y, z_opr kd (z_exr kd r).2 = .inl y ∧ y = z_pk (z_exr kd r).2 := by
        cases hh : (z_exr kd r).2 with
        | inl y => exact ⟨y, rfl, rfl⟩
        | inr y =>
          refine ⟨y, ?_, rfl⟩
          unfold z_opr
          simp only []
          rw [if_neg (g1 y hh)]
      obtain ⟨y, eo, ey⟩ := eo
      have e2 : (z_exr kd (z_opr kd (z_exr kd r).2)).2 = .inl y := by rw [eo]; rfl
      rw [e2]
      have hy : z_pk r ≤ y := by rw [ey]; exact a7
      refine ⟨_, st2, ?_, K7.trans (A2.kp [co]) (fun a ha => Or.inl ha), fun t h1 h2 => by rw [A2.1]; exact C7 t h1 h2, by rw [A2.2.2.2.2.1, R7]; exact a5, by rw [A2.2.2.2.2.1, R7]; exact a6, hy, M7.trans (A2.sm co2).cm, fun q' hq => by cases hq⟩
      have P11 := a_pl H g2
      have B : E_b n kd pl wd c (g_setI s11 386 2 1) (.inl y) (3 * z_pk (z_exr kd r).2 + (d + 1) + z_sl (z_exr kd r).2 6) := by
        refine g2.as Z (E_as.set (Or.inr rfl) _) ⟨?_, ?_, ?_⟩ (fun _ y => by cases y)
        · rw [x_I_I, if_pos ⟨rfl, rfl⟩]
        · rw [x_I_I, if_neg (fun q => by have := q.1; omega), P11.2.2.1, ey]
        · rw [ey]; exact P11.2.2.2.1
      refine B.mono ?_
      rw [← ey]
      have : z_sl (z_exr kd r).2 6 ≤ 6 := by cases (z_exr kd r).2 <;> (show _ ≤ 6; first | exact Nat.le_refl _ | exact Nat.zero_le _)
      show _ ≤ 3 * y + d + 7
      omega
end
