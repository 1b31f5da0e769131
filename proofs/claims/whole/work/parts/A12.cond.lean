/-! THE ENGINE READS A CONDITION -/
def z_nto (x : z_Co) : Nat := match x with
  | .inl b => z_nb b
  | .inr y => z_nbs y.2
def z_nco (x : z_Co) : Nat := match x with
  | .inl _ => 1
  | .inr y => 1 + y.2.length
def z_nso (x : z_Co) : Nat := match x with
  | .inl _ => 0
  | .inr _ => 1
def E_co (pl : Nat → Nat) (wd : Nat → Int64) (u : g_St) (k i j b : Nat) (sel : Option Nat) (x : z_Co) : Prop := k + z_nco x ≤ g_cnt u 10 ∧ g_I u 394 (k * 64 + 10) = 0 ∧ match x with
  | .inl y => g_R u 202 (k * 64 + 10) = none ∧ E_cb pl wd u (k * 64 + 10) i sel (some (k * 64 + 10)) y
  | .inr y => g_R u 10 (k * 64 + 10) = some 525 ∧ g_R u 202 (k * 64 + 10) = some (j * 64 + 9) ∧ j < g_cnt u 9 ∧ E_so pl wd u j sel (-1) y.1 ∧ (∃ a, b ≤ a ∧ a < g_cnt u 28 ∧ g_R u 266 (k * 64 + 10) = some (a * 64 + 28) ∧ g_ln u (a * 64 + 28) = 3 ∧ ∀ m, m < y.2.length → g_AR u (a * 64 + 28) m = some ((k + 1 + m) * 64 + 10)) ∧ g_I u 330 (k * 64 + 10) = Int32.ofNat y.2.length ∧ y.2.length ≤ 3 ∧ E_cbs pl wd u (k + 1) i sel (some (k * 64 + 10)) y.2
theorem E_co.kp {pl : Nat → Nat} {wd : Nat → Int64} {u v : g_St} {k i j b : Nat} {sel : Option Nat} {x : z_Co} (h : E_co pl wd u k i j b sel x) {X : List Nat} (kp : E_kp X u v) (hX : ∀ a ∈ X, a % 64 ≠ 9 ∧ a % 64 ≠ 10 ∧ a % 64 ≠ 11 ∧ (a % 64 = 28 → a / 64 < b)) : E_co pl wd v k i j b sel x := by
  obtain ⟨h1, h2, h3⟩ := h
  have hk : k < g_cnt u 10 := by cases x <;> (unfold z_nco at h1; simp only [] at h1; omega)
  have s : E_sm u v (k * 64 + 10) := kp.at (by rw [E_alc (by decide)]; exact hk) (by rw [(E_num (by decide)).2]; decide) (fun q => (hX _ q).2.1 (E_num (by decide)).2)
  refine ⟨Nat.le_trans h1 (kp.1 10), by rw [(s.1 _).1]; exact h2, ?_⟩
  cases x with
  | inl y => exact ⟨by rw [(s.1 _).2.2]; exact h3.1, h3.2.sm s kp (fun a ha => (hX a ha).2.2.1)⟩
  | inr y =>
    obtain ⟨a1, a2, a3, a4, ⟨a, b1, b2, b3, b4, b5⟩, a6, a7, a8⟩ := h3
    have sA : E_sm u v (a * 64 + 28) := kp.at (by rw [E_alc (by decide)]; exact b2) (by rw [(E_num (by decide)).2]; decide) (fun q => by have := (hX _ q).2.2.2 (E_num (by decide)).2; rw [(E_num (by decide)).1] at this; omega)
    refine ⟨by rw [(s.1 _).2.2]; exact a1, by rw [(s.1 _).2.2]; exact a2, Nat.lt_of_lt_of_le a3 (kp.1 9), a4.kp a3 kp (fun a ha => (hX a ha).1), ⟨a, b1, Nat.lt_of_lt_of_le b2 (kp.1 28), by rw [(s.1 _).2.2]; exact b3, by rw [sA.2.2.2.2]; exact b4, by rw [sA.2.2.2.1]; exact b5⟩, by rw [(s.1 _).1]; exact a6, a7, a8.kp (by unfold z_nco at h1; simp only [] at h1; omega) kp (fun a ha => ⟨(hX a ha).2.2.1, fun m _ e => (hX a ha).2.1 (by rw [e]; exact (E_num (by decide)).2)⟩)⟩
section
variable {n : Nat} {kd pl : Nat → Nat} {wd vl : Nat → Int64} {c : z_Cx}
theorem a_209 (Z : E_cx c) (H : z_H n kd) {u : g_St} {r : z_P} {w : Nat} {co : Option Nat} (h : E_b n kd pl wd c u r w) : ∃ s, f_Re_condition_209 (some 2) co u = some (co, g_setR s 578 2 none) ∧ E_b n kd pl wd c (g_setR s 578 2 none) (z_ndr kd 27 r) w ∧ E_as u s := by
  obtain ⟨s, a1, a2, a3⟩ := a_ex Z H h (k := 27) (by decide)
  refine ⟨s, ?_, a2.p2R Z (Or.inr rfl) none, a3⟩
  unfold f_Re_condition_209
  rw [x_nn, show (1741 : Nat) = 27 * 64 + 13 from rfl, a1, x_c, x_pR]
/-- up to the source -/
theorem a_105 (Z : E_cx c) (H : z_H n kd) (hvl : ∀ i, i < n → kd i = 37 → wd i = vl i) {u : g_St} {r : z_P} {w : Nat} {co : Option Nat} (h : E_b n kd pl wd c u r w) : ∃ s, (g_gI u 386 (some 2) fun i15 => if i15 = 0 then g_gR u 130 (some 2) fun p16 => g_gI u 322 (some 2) fun i17 => g_aR u p16 i17 fun p18 => if p18 = some 2381 then g_gR u 258 (some 2) fun p19 => g_gI u 322 (some 2) fun i20 => g_aL u p19 i20 fun j21 => if j21 = 1 then f_Re_condition_105 (some 2) co (some 2) 0 u else f_Re_condition_105 (some 2) co (some 2) 1 u else f_Re_condition_105 (some 2) co (some 2) 1 u else f_Re_condition_105 (some 2) co (some 2) 1 u) = (g_c (g_nn (some 2) (f_Re_source (some 2) (-1) s)) fun p6 s7 => g_pR s7 202 co p6 fun s8 => g_c (g_nn (some 2) (f_Re_accept (some 2) (some 333) s8)) fun i9 s10 => f_Re_condition_141 200000 (some 2) co i9 0 s10) ∧ E_b n kd pl wd c s (z_ndr kd 4 (z_ndr kd 37 (z_one kd vl r))) w ∧ E_as u s := by
  -- with the flag that is written
  have go : ∀ (b : Bool) (r' : z_P), E_ps (g_setI u 386 2 (z_g b)) n r' → (∀ p, r' = .inr p → ∃ q, r = .inr q) → z_ndr kd 37 r' = z_ndr kd 37 (z_one kd vl r) → ∃ s, f_Re_condition_105 (some 2) co (some 2) (z_g b) u = (g_c (g_nn (some 2) (f_Re_source (some 2) (-1) s)) fun p6 s7 => g_pR s7 202 co p6 fun s8 => g_c (g_nn (some 2) (f_Re_accept (some 2) (some 333) s8)) fun i9 s10 => f_Re_condition_141 200000 (some 2) co i9 0 s10) ∧ E_b n kd pl wd c s (z_ndr kd 4 (z_ndr kd 37 (z_one kd vl r))) w ∧ E_as u s := by
    intro b r' h1 h2 h3
    have B := h.as Z (E_as.set (Or.inr rfl) (z_g b)) h1 h2
    obtain ⟨s3, a1, a2, a3⟩ := a_ex Z H B (k := 37) (by decide)
    obtain ⟨s5, b1, b2, b3⟩ := a_ex Z H a2 (k := 4) (by decide)
    rw [h3] at b2
    refine ⟨s5, ?_, b2, ((E_as.set (Or.inr rfl) _).trans a3).trans b3⟩
    unfold f_Re_condition_105
    rw [x_pZ, x_nn, show (2381 : Nat) = 37 * 64 + 13 from rfl, a1, x_c, x_nn, show (269 : Nat) = 4 * 64 + 13 from rfl, b1, x_c]
  have P := a_pl H h
  obtain ⟨p1, p2, p3, p4, p5, p6, p7, p8, p9, p10, p11, p12⟩ := P
  have stq : E_ps (g_setI u 386 2 (z_g true)) n (.inl (z_pk r)) := ⟨by rw [x_I_I, if_pos ⟨rfl, rfl⟩]; rfl, by rw [x_I_I, if_neg (fun q => by have := q.1; omega)]; exact p3, p4⟩
  cases r with
  | inl q =>
    rw [x_gI, h.2.2.1.1, if_neg (by decide)]
    exact go true (.inl q) stq (fun _ y => by cases y) rfl
  | inr q =>
    have e3 : g_I u 322 2 = Int32.ofNat q := p3
    have e4 : q ≤ n := p4
    have e11 : g_AR u 23 q = some (kd q * 64 + 13) := p11
    have e12 : g_AL u 21 q = wd q := p12
    rw [x_gI, h.2.2.1.1, if_pos rfl, x_gR, p9, x_gI, e3, x_aR (by omega) (by rw [p10]; omega), e11]
    by_cases w1 : kd q = 37
    · have hq : q < n := H.2.2 q e4 (by omega)
      rw [if_pos (by rw [w1]), x_gR, p7, x_gI, e3, x_aL (by omega) (by rw [p8]; omega), e12]
      by_cases w2 : wd q = 1
      · rw [if_pos w2]
        refine go false (.inr q) ⟨by rw [x_I_I, if_pos ⟨rfl, rfl⟩]; rfl, by rw [x_I_I, if_neg (fun q => by have := q.1; omega)]; exact e3, e4⟩ (fun _ _ => ⟨q, rfl⟩) ?_
        unfold z_one
        simp only []
        rw [if_neg (fun y => y.2 (by rw [← hvl q hq w1]; exact w2))]
      · rw [if_neg w2]
        refine go true (.inl q) stq (fun _ y => by cases y) ?_
        unfold z_one
        simp only []
        rw [if_pos ⟨w1, by rw [← hvl q hq w1]; exact w2⟩]
    · rw [if_neg (fun y => w1 (by have := Option.some.inj y; omega))]
      refine go true (.inl q) stq (fun _ y => by cases y) ?_
      unfold z_one
      simp only []
      rw [if_neg (fun y => w1 y.1)]
      unfold z_ndr
      simp only []
      rw [if_neg w1]
theorem z_pk_one (r : z_P) : z_pk (z_one kd vl r) = z_pk r := by
  cases r with
  | inl q => rfl
  | inr q =>
    unfold z_one
    simp only []
    by_cases w : kd q = 37 ∧ vl q ≠ 1
    · rw [if_pos w]; rfl
    · rw [if_neg w]
theorem z_pk_sor (r : z_P) : z_pk r ≤ z_pk (z_sor kd r) := Nat.le_trans (z_pk_nd 36 r) (z_pk_nd 36 _)
theorem z_sl_le (r : z_P) (e : Nat) : z_sl r e ≤ e := by
  cases r with
  | inl q => exact Nat.le_refl _
  | inr q => exact Nat.zero_le _
/-- a condition -/
theorem a_con (Z : E_cx c) (H : z_H n kd) (hwd : ∀ i, i < n → kd i = 36 → wd i ≠ 0) (hvl : ∀ i, i < n → kd i = 37 → wd i = vl i) {u : g_St} {p d : Nat} (h : E_b n kd pl wd c u (.inr p) (3 * p + d)) (hd : d ≤ 32) :
    ∃ u', f_Re_condition (some 2) u = some (some (g_cnt u 10 * 64 + 10), u') ∧ E_b n kd pl wd c u' (z_con kd vl p).2 (3 * z_pk (z_con kd vl p).2 + d + z_sl (z_con kd vl p).2 7) ∧ E_kp [] u u' ∧ E_ct [9, 10, 11, 28] u u' ∧ g_R u' 514 2 = g_R u 514 2 ∧ g_R u' 578 2 = none ∧ p ≤ z_pk (z_con kd vl p).2 ∧ ∀ q, (z_con kd vl p).2 = .inr q → g_cnt u' 10 = g_cnt u 10 + z_nco (z_con kd vl p).1 ∧ g_cnt u' 11 = g_cnt u 11 + z_nto (z_con kd vl p).1 ∧ g_cnt u' 9 = g_cnt u 9 + z_nso (z_con kd vl p).1 ∧ E_co pl wd u' (g_cnt u 10) (g_cnt u 11) (g_cnt u 9) (g_cnt u 28) (g_R u 514 2) (z_con kd vl p).1 := by
  have hn := H.2.1
  have hp : p ≤ n := h.2.2.1.2.2
  have au := h.a2 Z
  obtain ⟨co, hco⟩ : ∃ co, co = g_cnt u 10 * 64 + 10 := ⟨_, rfl⟩
  obtain ⟨A, hA⟩ : ∃ A, A = g_cnt u 28 * 64 + 28 := ⟨_, rfl⟩
  have co2 : co ≠ 2 := by omega
  obtain ⟨s4, m1, m2, m3, m4, m5, m6, m7, m8, m9, m10⟩ := a_newc Z h (by omega)
  rw [← hco] at m7 m8
  rw [← hA] at m7 m9 m10
  have nwc : E_nw c co := by rw [hco]; exact h.new Z (by decide)
  have okc : E_ok [] u co := ⟨co2, Or.inr (Or.inr (Or.inr (by rw [hco]; exact E_nal (by decide))))⟩
  obtain ⟨s5, e5⟩ : ∃ s5, s5 = g_setR s4 578 2 (some co) := ⟨_, rfl⟩
  have B5 : E_b n kd pl wd c s5 (.inr p) (3 * p + d + 1) := by rw [e5]; exact m2.p2R Z (Or.inr rfl) _
  have K5 : E_kp [] u s5 := by rw [e5]; exact (m3.kp au []).p2R (Or.inr rfl) _
  have C5 : E_ct [9, 10, 11, 28] u s5 := fun t h1 h2 => by rw [e5]; exact m4 t (fun q => h1 (by simp only [List.mem_cons, List.not_mem_nil, or_false] at q ⊢; omega)) h2
  have c5 : ∀ t, g_cnt s5 t = g_cnt s4 t := fun t => by rw [e5]; rfl
  have f5 : ∀ k, g_R s5 k co = g_R s4 k co := fun k => by rw [e5, x_R_R, if_neg (fun q => co2 q.2)]
  have i5 : ∀ k, g_I s5 k co = g_I s4 k co := fun k => by rw [e5]; rfl
  have r514 : g_R s5 514 2 = g_R u 514 2 := by rw [e5, x_R_R, if_neg (fun q => by have := q.1; omega)]; exact ((m3.2 2 au).1 514).2.2
  have r578 : g_R s5 578 2 = some co := by rw [e5, x_R_R, if_pos ⟨rfl, rfl⟩]
  obtain ⟨s7, a1, a2, a3⟩ := a_ac Z H B5 (k := 7) (by decide)
  have st : f_Re_condition (some 2) u = if z_g (z_skr kd 7 (.inr p)).1 = 0 then (g_c (g_nn (some 2) (f_Re_comparison (some 2) (some co) s7)) fun _ s23 => g_pR s23 578 (some 2) none fun s24 => some (some co, s24)) else (g_pR s7 10 (some co) (some 525) fun s8 => g_c (g_nn (some 2) (f_Re_expect (some 2) (some 525) s8)) fun _ s10 => g_c (g_nn (some 2) (f_Re_expect (some 2) (some 1677) s10)) fun _ s12 => g_c (g_nn (some 2) (f_Re_expect (some 2) (some 205) s12)) fun _ s14 => g_gI s14 386 (some 2) fun i15 => if i15 = 0 then g_gR s14 130 (some 2) fun p16 => g_gI s14 322 (some 2) fun i17 => g_aR s14 p16 i17 fun p18 => if p18 = some 2381 then g_gR s14 258 (some 2) fun p19 => g_gI s14 322 (some 2) fun i20 => g_aL s14 p19 i20 fun j21 => if j21 = 1 then f_Re_condition_105 (some 2) (some co) (some 2) 0 s14 else f_Re_condition_105 (some 2) (some co) (some 2) 1 s14 else f_Re_condition_105 (some 2) (some co) (some 2) 1 s14 else f_Re_condition_105 (some 2) (some co) (some 2) 1 s14) := by
    unfold f_Re_condition
    refine (m1 _).trans ?_
    rw [← hco, x_pR, ← e5, x_nn, show (461 : Nat) = 7 * 64 + 13 from rfl, a1, x_c]
  rw [← hco]
  have K7 : E_kp [] u s7 := K5.trans (a3.kp []) (fun a ha => by cases ha)
  have sc7 := a3.sm co2
  by_cases w1 : kd p = 7
  · -- NOT EXISTS
    have ez : z_con kd vl p = (.inr (z_ner kd vl p).1, (z_ner kd vl p).2) := by unfold z_con; rw [if_pos w1]
    rw [z_skr_t w1, if_neg (show ¬ z_g (true, (.inr (p + 1) : z_P)).1 = 0 from (show ¬ z_g true = 0 by decide)), x_pR] at st
    rw [z_skr_t w1] at a2
    obtain ⟨s8, e8⟩ : ∃ s8, s8 = g_setR s7 10 co (some 525) := ⟨_, rfl⟩
    have B8 : E_b n kd pl wd c s8 (.inr (p + 1)) (3 * p + d + 1) := by rw [e8]; exact a2.pR Z nwc (by decide) (by decide) _
    obtain ⟨s10, b1, b2, b3⟩ := a_ex Z H B8 (k := 8) (by decide)
    obtain ⟨s12, c1, c2, c3⟩ := a_ex Z H b2 (k := 26) (by decide)
    obtain ⟨s14, d1, d2, d3⟩ := a_ex Z H c2 (k := 3) (by decide)
    obtain ⟨s15, g1, g2, g3⟩ := a_105 (vl := vl) (co := some co) Z H hvl d2
    rw [← e8, x_nn, show (525 : Nat) = 8 * 64 + 13 from rfl, b1, x_c, x_nn, show (1677 : Nat) = 26 * 64 + 13 from rfl, c1, x_c, x_nn, show (205 : Nat) = 3 * 64 + 13 from rfl, d1, x_c, g1] at st
    have A15 : E_as s8 s15 := ((b3.trans c3).trans d3).trans g3
    have eh : z_ndr kd 4 (z_ndr kd 37 (z_one kd vl (z_ndr kd 3 (z_ndr kd 26 (z_ndr kd 8 (.inr (p + 1))))))) = z_neh kd vl p := rfl
    rw [eh] at g2
    have pkh : p + 1 ≤ z_pk (z_neh kd vl p) := by
      have x1 := z_pk_nd (kd := kd) 8 (.inr (p + 1))
      have x2 := z_pk_nd (kd := kd) 26 (z_ndr kd 8 (.inr (p + 1)))
      have x3 := z_pk_nd (kd := kd) 3 (z_ndr kd 26 (z_ndr kd 8 (.inr (p + 1))))
      have x4 := z_pk_one (kd := kd) (vl := vl) (z_ndr kd 3 (z_ndr kd 26 (z_ndr kd 8 (.inr (p + 1)))))
      have x5 := z_pk_nd (kd := kd) 37 (z_one kd vl (z_ndr kd 3 (z_ndr kd 26 (z_ndr kd 8 (.inr (p + 1))))))
      have x6 := z_pk_nd (kd := kd) 4 (z_ndr kd 37 (z_one kd vl (z_ndr kd 3 (z_ndr kd 26 (z_ndr kd 8 (.inr (p + 1)))))))
      rw [eh] at x6
      have x0 : z_pk (.inr (p + 1)) = p + 1 := rfl
      omega
    have B15 : E_b n kd pl wd c s15 (z_neh kd vl p) (3 * z_pk (z_neh kd vl p) + d) := g2.mono (by omega)
    obtain ⟨s16, k1, k2, k3, k4, k5, k6, k7, k8, k9⟩ := a_so Z H hwd B15 (by omega) (-1)
    have K15 : E_kp [] u s15 := by
      have : E_kp [] u s8 := by rw [e8]; exact K7.pR okc _ _
      exact this.trans (A15.kp []) (fun a ha => by cases ha)
    have c15 : ∀ t, g_cnt s15 t = g_cnt s4 t := fun t => by
      rw [A15.1, e8]
      show g_cnt s7 t = _
      rw [a3.1, c5]
    have alco : ∀ v : g_St, g_cnt s4 10 ≤ g_cnt v 10 → g_al v co := fun v hv => by rw [hco, E_alc (by decide)]; omega
    have alA : ∀ v : g_St, g_cnt s4 28 ≤ g_cnt v 28 → g_al v A := fun v hv => by rw [hA, E_alc (by decide)]; omega
    have kc : co % 64 ≠ 12 ∧ co % 64 ≠ 30 ∧ co % 64 ≠ 2 := by rw [hco, (E_num (by decide)).2]; decide
    have kA : A % 64 ≠ 12 ∧ A % 64 ≠ 30 ∧ A % 64 ≠ 2 := by rw [hA, (E_num (by decide)).2]; decide
    have A2 : A ≠ 2 := by omega
    obtain ⟨s17, e17⟩ : ∃ s17, s17 = g_setR s16 202 co (some (g_cnt s15 9 * 64 + 9)) := ⟨_, rfl⟩
    have B17 : E_b n kd pl wd c s17 (z_sor kd (z_neh kd vl p)) (3 * z_pk (z_sor kd (z_neh kd vl p)) + d + z_sl (z_sor kd (z_neh kd vl p)) 6) := by rw [e17]; exact k2.pR Z nwc (by decide) (by decide) _
    obtain ⟨s18, l1, l2, l3⟩ := a_ac Z H B17 (k := 5) (by decide)
    rw [x_nn, k1, x_c, x_pR, ← e17, x_nn, show (333 : Nat) = 5 * 64 + 13 from rfl, l1, x_c] at st
    -- fields of the condition
    have f8 : ∀ k, g_R s8 k co = if k = 10 then some 525 else g_R s4 k co := fun k => by
      rw [e8, x_R_R]
      by_cases y : k = 10
      · rw [if_pos ⟨y, rfl⟩, if_pos y]
      · rw [if_neg (fun q => y q.1), if_neg y, (sc7.1 k).2.2, f5]
    have s15c := A15.sm co2
    have sc16 : E_sm s15 s16 co := k3.at (alco s15 (by rw [c15]; exact Nat.le_refl _)) kc (by simp)
    have sc18 := l3.sm co2
    have f18 : ∀ k, g_R s18 k co = if k = 202 then some (g_cnt u 9 * 64 + 9) else if k = 10 then some 525 else g_R s4 k co := fun k => by
      rw [(sc18.1 k).2.2, e17, x_R_R]
      have e9 : g_cnt s15 9 = g_cnt u 9 := by rw [c15, m4 9 (by decide) (by decide)]
      by_cases y : k = 202
      · rw [if_pos ⟨y, rfl⟩, if_pos y, e9]
      · rw [if_neg (fun q => y q.1), if_neg y, (sc16.1 k).2.2, (s15c.1 k).2.2, f8]
    have i18 : ∀ k, g_I s18 k co = 0 := fun k => by
      rw [(sc18.1 k).1, e17]
      show g_I s16 k co = 0
      rw [(sc16.1 k).1, (s15c.1 k).1, e8]
      show g_I s7 k co = 0
      rw [(sc7.1 k).1, i5, m8]
    have c18 : ∀ t, g_cnt s18 t = g_cnt s16 t := fun t => by rw [l3.1, e17]; rfl
    have sA18 : E_sm s4 s18 A := by
      have y1 : E_sm s4 s7 A := (show E_sm s4 s5 A by rw [e5]; exact E_sm.re.pR _ _ A2).trans (a3.sm A2)
      have y2 : E_sm s7 s15 A := (show E_sm s7 s8 A by rw [e8]; exact E_sm.re.pR _ _ (by omega)).trans (A15.sm A2)
      have y3 : E_sm s15 s16 A := k3.at (alA s15 (by rw [c15]; exact Nat.le_refl _)) kA (by simp)
      have y4 : E_sm s16 s18 A := (show E_sm s16 s17 A by rw [e17]; exact E_sm.re.pR _ _ (by omega)).trans (l3.sm A2)
      exact ((y1.trans y2).trans y3).trans y4
    have K18 : E_kp [] u s18 := by
      have : E_kp [] u s17 := by rw [e17]; exact (K15.trans k3 (fun a ha => by cases ha)).pR okc _ _
      exact this.trans (l3.kp []) (fun a ha => by cases ha)
    have C18 : E_ct [9, 10, 11, 28] u s18 := fun t h1 h2 => by
      rw [c18, k4 t (fun q => h1 (by rw [List.mem_singleton.mp q]; decide)) h2, c15, ← c5]
      exact C5 t h1 h2
    have R18 : g_R s18 514 2 = g_R u 514 2 ∧ g_R s18 578 2 = some co := by
      have y : ∀ k, k = 514 ∨ k = 578 → g_R s18 k 2 = g_R s16 k 2 := fun k _ => by rw [l3.2.2.2.2.1, e17, x_R_R, if_neg (fun q => co2 q.2.symm)]
      have z : ∀ k, g_R s15 k 2 = g_R s5 k 2 := fun k => by rw [A15.2.2.2.2.1, e8, x_R_R, if_neg (fun q => co2 q.2.symm), a3.2.2.2.2.1]
      rw [y 514 (Or.inl rfl), y 578 (Or.inr rfl), k6, k7, z, z]
      exact ⟨r514, r578⟩
    have c18' : g_cnt s18 10 = g_cnt u 10 + 1 ∧ g_cnt s18 11 = g_cnt u 11 ∧ g_cnt s18 9 = g_cnt u 9 + 1 ∧ g_cnt s18 28 = g_cnt u 28 + 1 := by
      refine ⟨?_, ?_, ?_, ?_⟩
      · rw [c18, k4 10 (by decide) (by decide), c15, m5]
      · rw [c18, k4 11 (by decide) (by decide), c15, m4 11 (by decide) (by decide)]
      · rw [c18, k5, c15, m4 9 (by decide) (by decide)]
      · rw [c18, k4 28 (by decide) (by decide), c15, m6]
    have so18 : ∀ q, z_sor kd (z_neh kd vl p) = .inr q → E_so pl wd s18 (g_cnt u 9) (g_R u 514 2) (-1) (z_pk (z_neh kd vl p)) := fun q hq => by
      cases hh : z_neh kd vl p with
      | inl y => rw [hh] at hq; cases hq
      | inr y =>
        obtain ⟨-, x2⟩ := k9 y q hh hq
        have e9 : g_cnt s15 9 = g_cnt u 9 := by rw [c15, m4 9 (by decide) (by decide)]
        have e514 : g_R s15 514 2 = g_R u 514 2 := by rw [A15.2.2.2.2.1, e8, x_R_R, if_neg (fun q => co2 q.2.symm), a3.2.2.2.2.1]; exact r514
        rw [e9, e514] at x2
        refine (x2.sm ?_ : E_so pl wd s17 _ _ _ _).sm (l3.sm (by omega))
        rw [e17]
        exact E_sm.re.pR _ _ (by omega)
    -- the end
    have fin : ∀ (s : g_St) (L : List z_Bs) (rr : z_P), z_new kd vl p = (L, rr) → f_Re_condition (some 2) u = f_Re_condition_209 (some 2) (some co) s → E_b n kd pl wd c s rr (3 * z_pk rr + d + z_sl rr 7) → E_kp [] u s → E_ct [9, 10, 11, 28] u s → g_R s 514 2 = g_R u 514 2 → p ≤ z_pk rr → (∀ q, rr = .inr q → g_cnt s 10 = g_cnt u 10 + (1 + L.length) ∧ g_cnt s 11 = g_cnt u 11 + z_nbs L ∧ g_cnt s 9 = g_cnt u 9 + 1 ∧ E_co pl wd s (g_cnt u 10) (g_cnt u 11) (g_cnt u 9) (g_cnt u 28) (g_R u 514 2) (.inr (z_pk (z_neh kd vl p), L))) →
        ∃ u', f_Re_condition (some 2) u = some (some co, u') ∧ E_b n kd pl wd c u' (z_con kd vl p).2 (3 * z_pk (z_con kd vl p).2 + d + z_sl (z_con kd vl p).2 7) ∧ E_kp [] u u' ∧ E_ct [9, 10, 11, 28] u u' ∧ g_R u' 514 2 = g_R u 514 2 ∧ g_R u' 578 2 = none ∧ p ≤ z_pk (z_con kd vl p).2 ∧ ∀ q, (z_con kd vl p).2 = .inr q → g_cnt u' 10 = g_cnt u 10 + z_nco (z_con kd vl p).1 ∧ g_cnt u' 11 = g_cnt u 11 + z_nto (z_con kd vl p).1 ∧ g_cnt u' 9 = g_cnt u 9 + z_nso (z_con kd vl p).1 ∧ E_co pl wd u' (g_cnt u 10) (g_cnt u 11) (g_cnt u 9) (g_cnt u 28) (g_R u 514 2) (z_con kd vl p).1 := by
      intro s L rr q1 q2 q3 q4 q5 q6 q7 q8
      obtain ⟨t, x1, x2, x3⟩ := a_209 (co := some co) Z H q3
      have en : z_ner kd vl p = ((z_pk (z_neh kd vl p), L), z_ndr kd 27 rr) := by unfold z_ner; rw [q1]
      rw [ez, en]
      have pk := z_pk_nd (kd := kd) 27 rr
      have Kt : E_kp [] u (g_setR t 578 2 none) := (q4.trans (x3.kp []) (fun a ha => by cases ha)).p2R (Or.inr rfl) _
      refine ⟨_, by rw [q2, x1], ?_, Kt, fun t' h1 h2 => ?_, ?_, ?_, Nat.le_trans q7 pk, fun q hq => ?_⟩
      · refine x2.mono ?_
        show _ ≤ 3 * z_pk (z_ndr kd 27 rr) + d + z_sl (z_ndr kd 27 rr) 7
        cases hh : rr with
        | inl y => show 3 * y + d + 7 ≤ 3 * y + d + 7; exact Nat.le_refl _
        | inr y =>
          rw [hh] at pk
          have : y ≤ z_pk (z_ndr kd 27 (.inr y)) := pk
          show 3 * y + d + 0 ≤ _
          omega
      · show g_cnt t t' = _
        rw [x3.1]; exact q5 t' h1 h2
      · rw [x_R_R, if_neg (fun q => by have := q.1; omega), x3.2.2.2.2.1]; exact q6
      · rw [x_R_R, if_pos ⟨rfl, rfl⟩]
      · obtain ⟨y, z1, -, -⟩ := z_ndr_ok (show z_ndr kd 27 rr = .inr q from hq)
        obtain ⟨z2, z3, z4, z5⟩ := q8 y z1
        refine ⟨?_, ?_, ?_, ?_⟩
        · show g_cnt t 10 = _; rw [x3.1]; exact z2
        · show g_cnt t 11 = _; rw [x3.1]; exact z3
        · show g_cnt t 9 = _; rw [x3.1]; exact z4
        · exact z5.kp ((x3.kp []).p2R (Or.inr rfl) none) (fun a ha => by cases ha)
    rcases z_skr_c 5 (z_sor kd (z_neh kd vl p)) with ⟨w2, q, f1, f2, f3⟩ | ⟨w2, f1, f2⟩
    · -- WHERE
      rw [f3] at l2
      have epk : z_pk (z_sor kd (z_neh kd vl p)) = q := by rw [f1]; rfl
      have esl : z_sl (z_sor kd (z_neh kd vl p)) 6 = 0 := by rw [f1]; rfl
      have B18 : E_b n kd pl wd c s18 (.inr (q + 1)) (3 * (q + 1) + d) := l2.mono (by rw [epk, esl]; omega)
      have A18 : g_R s18 266 (g_cnt u 10 * 64 + 10) = some (g_cnt u 28 * 64 + 28) := by rw [← hco, ← hA, f18, if_neg (by decide), if_neg (by decide), m7, if_pos rfl]
      obtain ⟨s19, x1, x2, x3, x4, x5, x6⟩ := a_inl Z H hwd B18 (by omega) (k := g_cnt u 10) (a := g_cnt u 28) (by rw [c18'.1]; omega) (h.2.2.2.2.2.1.1 10) (by rw [c18'.2.2.2]; omega) (h.2.2.2.2.2.1.1 28) A18 (by rw [← hA, sA18.2.2.2.2]; exact m9) (by rw [← hco]; exact i18 _)
      rw [← hco, ← hA] at x3 x6
      rw [← hco] at x1
      rw [w2, show z_g true = 1 from rfl, x1] at st
      have enw : z_new kd vl p = z_cil kd 2 (q + 1) := z_new_t f3
      have pq : p + 1 ≤ q := by have := z_pk_sor (kd := kd) (z_neh kd vl p); rw [epk] at this; omega
      obtain ⟨y1, y2, y3, y4, y5, y6, y7⟩ := x3
      refine fin s19 (z_cil kd 2 (q + 1)).1 (z_cil kd 2 (q + 1)).2 (by rw [enw]) st x2 (K18.trans y1 (fun b hb => Or.inr ?_)) (C18.trans y2 (by decide)) (y3.trans R18.1) (by omega) (fun q' hq' => ?_)
      · simp only [List.mem_cons, List.not_mem_nil, or_false] at hb
        rcases hb with e | e
        · rw [e, hco]; exact E_nal (by decide)
        · rw [e, hA]; exact E_nal (by decide)
      · obtain ⟨z1, z2, z3, z4, z5⟩ := x6 q' hq'
        rw [c18'.1] at z1 z3 z5
        rw [c18'.2.1] at z4 z5
        rw [R18.1, R18.2] at z5
        have k9' : g_cnt s19 9 = g_cnt u 9 + 1 := by rw [y2 9 (by decide) (by decide), c18'.2.2.1]
        refine ⟨by rw [z1]; omega, z4, k9', by rw [z1]; show g_cnt u 10 + (1 + (z_cil kd 2 (q + 1)).1.length) ≤ _; omega, ?_, ?_, ?_, ?_, ?_, ⟨g_cnt u 28, Nat.le_refl _, ?_, ?_, ?_, fun m hm => ?_⟩, ?_, x5, ?_⟩
        · rw [← hco, y6 394 (by decide)]; exact i18 _
        · rw [← hco, y5, f18, if_neg (by decide), if_pos rfl]
        · rw [← hco, y5, f18, if_pos rfl]
        · rw [k9']; omega
        · refine (so18 q f1).sm (y1.at (by rw [E_alc (by decide), c18'.2.2.1]; omega) (by rw [(E_num (by decide)).2]; decide) (fun q => ?_))
          simp only [List.mem_cons, List.not_mem_nil, or_false] at q
          omega
        · exact Nat.lt_of_lt_of_le (by rw [c18'.2.2.2]; omega) (y1.1 28)
        · rw [← hco, ← hA, y5, f18, if_neg (by decide), if_neg (by decide), m7, if_pos rfl]
        · rw [← hA, y7, sA18.2.2.2.2]; exact m9
        · rw [← hA]; exact z3 m hm
        · rw [← hco]; exact z2
        · rw [← hco]; exact z5
    · rw [f1] at l2
      have enw : z_new kd vl p = ([], z_sor kd (z_neh kd vl p)) := by rw [z_new_s w2, f1]
      rw [w2, show z_g false = 0 from rfl] at st
      have stE : f_Re_condition_141 200000 (some 2) (some co) 0 0 s18 = f_Re_condition_209 (some 2) (some co) s18 := by rw [f_Re_condition_141, if_neg (by decide), if_pos rfl]
      have pq := z_pk_sor (kd := kd) (z_neh kd vl p)
      refine fin s18 [] (z_sor kd (z_neh kd vl p)) enw (by rw [st, stE]) (l2.mono ?_) K18 C18 R18.1 (by omega) (fun q hq => ?_)
      · cases hh : z_sor kd (z_neh kd vl p) with
        | inl y => show 3 * y + d + 6 ≤ 3 * y + d + 7; omega
        | inr y => exact Nat.le_refl _
      · refine ⟨by rw [c18'.1]; rfl, by rw [c18'.2.1]; rfl, c18'.2.2.1, by rw [c18'.1]; exact Nat.le_refl _, by rw [← hco]; exact i18 _, by rw [← hco, f18, if_neg (by decide), if_pos rfl], by rw [← hco, f18, if_pos rfl], by rw [c18'.2.2.1]; omega, so18 q hq, ⟨g_cnt u 28, Nat.le_refl _, by rw [c18'.2.2.2]; omega, by rw [← hco, ← hA, f18, if_neg (by decide), if_neg (by decide), m7, if_pos rfl], by rw [← hA, sA18.2.2.2.2]; exact m9, (fun m hm => by cases hm)⟩, by rw [← hco]; exact i18 _, Nat.zero_le _, (fun m hm => by cases hm)⟩
  · -- a comparison
    have ez : z_con kd vl p = (.inl (z_cor kd (.inr p)).1, (z_cor kd (.inr p)).2) := by unfold z_con; rw [if_neg w1]
    rw [ez]
    rw [z_skr_f w1, if_pos (show z_g (false, (.inr p : z_P)).1 = 0 from rfl)] at st
    rw [z_skr_f w1] at a2
    have c7 : ∀ t, g_cnt s7 t = g_cnt s4 t := fun t => by rw [a3.1, c5]
    obtain ⟨s23, b1, b2, b3, b4, b5, b6, b7, b8, b9⟩ := a_cmp Z H hwd (r := .inr p) (d := d) (k := g_cnt u 10) a2 (by omega) (by rw [c7, m5]; omega) (h.2.2.2.2.2.1.1 10) (by rw [← hco, (sc7.1 _).2.2, f5, m7, if_neg (by decide), if_neg (by decide)])
    rw [← hco] at b1 b3 b8 b9
    rw [x_nn, b1, x_c, x_pR] at st
    have Ku : E_kp [] u (g_setR s23 578 2 none) := (K7.trans b3 (fun a ha => Or.inr (by rw [List.mem_singleton.mp ha, hco]; exact E_nal (by decide)))).p2R (Or.inr rfl) _
    have r7 : g_R s7 514 2 = g_R u 514 2 ∧ g_R s7 578 2 = some co := by rw [a3.2.2.2.2.1]; exact ⟨r514, r578⟩
    refine ⟨_, st, b2.p2R Z (Or.inr rfl) none, Ku, fun t h1 h2 => ?_, ?_, ?_, b7, fun q hq => ?_⟩
    · show g_cnt s23 t = _
      rw [b4 t (fun q => h1 (by rw [List.mem_singleton.mp q]; decide)) h2, c7, ← c5]
      exact C5 t h1 h2
    · rw [x_R_R, if_neg (fun q => by have := q.1; omega), b5]; exact r7.1
    · rw [x_R_R, if_pos ⟨rfl, rfl⟩]
    · obtain ⟨x1, x2⟩ := b9 q hq
      rw [r7.1, r7.2] at x2
      have c11 : g_cnt s7 11 = g_cnt u 11 := by rw [c7, m4 11 (by decide) (by decide)]
      rw [c11] at x1 x2
      have c10 : g_cnt s23 10 = g_cnt u 10 + 1 := by rw [b4 10 (by decide) (by decide), c7, m5]
      refine ⟨c10, x1, ?_, ?_, ?_, ?_, ?_⟩
      · show g_cnt s23 9 = _
        rw [b4 9 (by decide) (by decide), c7, m4 9 (by decide) (by decide)]; rfl
      · show _ ≤ g_cnt s23 10
        rw [c10]; exact Nat.le_refl _
      · rw [← hco]
        show g_I s23 394 co = 0
        rw [(b8.1 394).1, (sc7.1 394).1, i5, m8]
      · rw [← hco, x_R_R, if_neg (fun q => by have := q.1; omega), (b8.1 202).2.2 (by decide) (by decide) (by decide), (sc7.1 202).2.2, f5, m7, if_neg (by decide), if_neg (by decide)]
      · rw [← hco]
        exact x2.sm (E_sm.re.pR _ _ co2) ((E_kp.re.p2R (X := []) (Or.inr rfl) none)) (fun a ha => by cases ha)
end
