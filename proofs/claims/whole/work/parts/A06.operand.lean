/-! THE ENGINE READS AN OPERAND -/
def z_opp (kd : Nat → Nat) (r : z_P) : z_P := match r with
  | .inl q => .inl q
  | .inr p => match z_op1 kd p with
    | .inl q => .inl q
    | .inr x => .inr x.2
/-- what is paid more when stuck -/
def z_sl (r : z_P) (e : Nat) : Nat := match r with
  | .inl _ => e
  | .inr _ => 0
/-- a term stands at t -/
def E_te (pl : Nat → Nat) (wd : Nat → Int64) (u : g_St) (t : Nat) (sel top : Option Nat) (x : Bool × Nat × Nat) : Prop := g_I u 11 t = z_g x.1 ∧ g_I u 75 t = Int32.ofNat (pl x.2.2) ∧ g_R u 139 t = sel ∧ g_R u 203 t = top ∧ (x.2.1 = 1 → g_L u 267 t = 1099511627776) ∧ (x.2.1 = 0 → g_L u 267 t = wd x.2.2) ∧ (x.2.1 = 2 → g_L u 331 t = wd x.2.2 ∧ g_L u 395 t = wd (x.2.2 + 2) ∧ wd (x.2.2 + 2) ≠ 0) ∧ (x.2.1 ≠ 2 → g_L u 395 t = 0) ∧ g_R u 523 t = none ∧ g_I u 587 t = 0 ∧ g_I u 459 t = 0 ∧ x.2.1 ≤ 2
theorem E_te.sm {pl : Nat → Nat} {wd : Nat → Int64} {u v : g_St} {t : Nat} {sel top : Option Nat} {x : Bool × Nat × Nat} (h : E_te pl wd u t sel top x) (s : E_sm u v t) : E_te pl wd v t sel top x := by
  unfold E_te at *
  rw [(s.1 11).1, (s.1 75).1, (s.1 139).2.2, (s.1 203).2.2, (s.1 267).2.1, (s.1 331).2.1, (s.1 395).2.1, (s.1 523).2.2, (s.1 587).1, (s.1 459).1]
  exact h
/-- of these kinds alone (and of arrays of lists) something has come -/
def E_ct (L : List Nat) (u v : g_St) : Prop := ∀ t, t ∉ L → t ≠ 30 → g_cnt v t = g_cnt u t
theorem E_ct.re {L : List Nat} {u : g_St} : E_ct L u u := fun _ _ _ => rfl
theorem E_ct.trans {L M : List Nat} {u v w : g_St} (h : E_ct L u v) (g : E_ct M v w) (s : ∀ t ∈ M, t ∈ L) : E_ct L u w := fun t a b => (g t (fun q => a (s t q)) b).trans (h t a b)
theorem E_ct.as {L : List Nat} {u v : g_St} (h : E_as u v) : E_ct L u v := fun _ _ _ => by rw [h.1]
section
variable {n : Nat} {kd pl : Nat → Nat} {wd : Nat → Int64} {c : z_Cx}
theorem z_pk_nd (k : Nat) (r : z_P) : z_pk r ≤ z_pk (z_ndr kd k r) := by
  cases r with
  | inl q => exact Nat.le_refl _
  | inr p =>
    unfold z_ndr
    simp only []
    by_cases w : kd p = k
    · rw [if_pos w]; show p ≤ p + 1; omega
    · rw [if_neg w]; exact Nat.le_refl _
theorem z_opp_e {p : Nat} (h1 : kd p ≠ 10) (h2 : kd p ≠ 37) : z_opp kd (.inr p) = z_ndr kd 36 (z_ndr kd 28 (z_ndr kd 36 (.inr p))) := by
  unfold z_opp z_op1
  simp only []
  rw [if_neg h1, if_neg h2]
  unfold z_nd z_bd z_ndr
  simp only []
  by_cases w1 : kd p = 36
  · rw [if_pos w1, if_pos w1]
    simp only []
    by_cases w2 : kd (p + 1) = 28
    · rw [if_pos w2, if_pos w2]
      simp only []
      by_cases w3 : kd (p + 1 + 1) = 36
      · rw [if_pos w3, if_pos w3]
      · rw [if_neg w3, if_neg w3]
    · rw [if_neg w2, if_neg w2]
  · rw [if_neg w1, if_neg w1]
theorem z_op1_e {p q : Nat} {x : Nat × Nat} (h1 : kd p ≠ 10) (h2 : kd p ≠ 37) (h : z_op1 kd p = .inr (x, q)) : x = (2, p) ∧ q = p + 3 ∧ kd p = 36 ∧ kd (p + 1) = 28 ∧ kd (p + 2) = 36 := by
  unfold z_op1 at h
  rw [if_neg h1, if_neg h2] at h
  unfold z_nd z_bd at h
  by_cases w1 : kd p = 36
  · rw [if_pos w1] at h
    simp only [] at h
    by_cases w2 : kd (p + 1) = 28
    · rw [if_pos w2] at h
      simp only [] at h
      by_cases w3 : kd (p + 1 + 1) = 36
      · rw [if_pos w3] at h
        cases h
        exact ⟨rfl, rfl, w1, w2, w3⟩
      · rw [if_neg w3] at h; cases h
    · rw [if_neg w2] at h; cases h
  · rw [if_neg w1] at h; cases h
theorem a_op (Z : E_cx c) (H : z_H n kd) (hwd : ∀ i, i < n → kd i = 36 → wd i ≠ 0) {u : g_St} {r : z_P} {d : Nat} (h : E_b n kd pl wd c u r (3 * z_pk r + d)) (hd : d ≤ 40) (mn : Bool) :
    ∃ u', f_Re_operand (some 2) (z_g mn) u = some (some (g_cnt u 11 * 64 + 11), u') ∧ E_b n kd pl wd c u' (z_opp kd r) (3 * z_pk (z_opp kd r) + d + z_sl (z_opp kd r) 6) ∧ E_kp [] u u' ∧ E_ct [11] u u' ∧ g_cnt u' 11 = g_cnt u 11 + 1 ∧ g_R u' 514 2 = g_R u 514 2 ∧ g_R u' 578 2 = g_R u 578 2 ∧ g_R u' 651 (g_cnt u 11 * 64 + 11) = none ∧ z_pk r ≤ z_pk (z_opp kd r) ∧ ∀ p x q, r = .inr p → z_op1 kd p = .inr (x, q) → p < q ∧ E_te pl wd u' (g_cnt u 11 * 64 + 11) (g_R u 514 2) (g_R u 578 2) (mn, x) := by
  obtain ⟨i, hi⟩ : ∃ i, i = g_cnt u 11 := ⟨_, rfl⟩
  obtain ⟨t, ht⟩ : ∃ t, t = g_cnt u 11 * 64 + 11 := ⟨_, rfl⟩
  have P := a_pl H h
  obtain ⟨p1, p2, p3, p4, p5, p6, p7, p8, -⟩ := P
  have rm := h.room Z (by omega)
  have t2 : t ≠ 2 := by omega
  have nw : E_nw c t := by rw [ht]; exact h.new Z (by decide)
  obtain ⟨s2, e2⟩ : ∃ s2, s2 = g_mk u 11 11 0 := ⟨_, rfl⟩
  have R2 : ∀ k, g_R s2 k 2 = g_R u k 2 := fun k => by rw [e2, x_R_mk, if_neg (by omega)]
  have I2 : ∀ k, g_I s2 k 2 = g_I u k 2 := fun k => by rw [e2, x_I_mk, if_neg (by omega)]
  have B2 : E_b n kd pl wd c s2 r (3 * z_pk r + d + 1) := by
    have := h.2.2.2.2.2.2.1
    rw [e2]
    exact h.mk Z (by decide) 11 0 (by omega) (by omega) (by omega)
  obtain ⟨s9, e9⟩ : ∃ s9, s9 = g_setR (g_setR (g_setI (g_setI s2 11 t (z_g mn)) 75 t (Int32.ofNat (pl (z_pk r)))) 139 t (g_R u 514 2)) 203 t (g_R u 578 2) := ⟨_, rfl⟩
  have B9 : E_b n kd pl wd c s9 r (3 * z_pk r + d + 1) := by
    rw [e9]
    exact (((B2.pI Z nw 11 _).pI Z nw 75 _).pR Z nw (by decide) (by decide) _).pR Z nw (by decide) (by decide) _
  have K9 : E_kp [] u s9 := by
    have ok : E_ok [] u t := by rw [ht]; exact E_ok.new (E_kp.re : E_kp [] u u) (by decide) (by decide)
    rw [e9, e2]
    exact ((((E_kp.re.mk (by decide) (by decide) 11 0).pI ok _ _).pI ok _ _).pR ok _ _).pR ok _ _
  have C9 : E_ct [11] u s9 := fun t' h1 h2 => by
    rw [e9, e2]
    show g_cnt (g_mk u 11 11 0) t' = _
    rw [x_cnt_mk, if_neg (fun e => h1 (List.mem_singleton.mpr e))]
  have n9 : g_cnt s9 11 = i + 1 := by
    rw [e9, e2, hi]
    show g_cnt (g_mk u 11 11 0) 11 = _
    rw [x_cnt_mk, if_pos rfl]
  have L9 : ∀ k, g_L s9 k t = 0 := fun k => by
    rw [e9, e2]
    show g_L (g_mk u 11 11 0) k t = 0
    rw [x_L_mk, if_pos ht]
  have RR9 : ∀ k, g_R s9 k t = if k = 203 then g_R u 578 2 else if k = 139 then g_R u 514 2 else none := fun k => by
    rw [e9, x_R_R, x_R_R]
    show (if _ then _ else if _ then _ else g_R s2 k t) = _
    rw [e2, x_R_mk, if_pos ht]
    by_cases w : k = 203
    · rw [if_pos ⟨w, rfl⟩, if_pos w]
    · rw [if_neg (fun q => w q.1), if_neg w]
      by_cases w : k = 139
      · rw [if_pos ⟨w, rfl⟩, if_pos w]
      · rw [if_neg (fun q => w q.1), if_neg w]
  have II9 : ∀ k, g_I s9 k t = if k = 75 then Int32.ofNat (pl (z_pk r)) else if k = 11 then z_g mn else 0 := fun k => by
    rw [e9]
    show g_I (g_setI (g_setI s2 11 t (z_g mn)) 75 t (Int32.ofNat (pl (z_pk r)))) k t = _
    rw [x_I_I, x_I_I, e2, x_I_mk, if_pos ht]
    by_cases w : k = 75
    · rw [if_pos ⟨w, rfl⟩, if_pos w]
    · rw [if_neg (fun q => w q.1), if_neg w]
      by_cases w : k = 11
      · rw [if_pos ⟨w, rfl⟩, if_pos w]
      · rw [if_neg (fun q => w q.1), if_neg w]
  have q9 : ∀ k, g_R s9 k 2 = g_R u k 2 := fun k => by
    rw [e9, x_R_R, if_neg (fun q => t2 q.2.symm), x_R_R, if_neg (fun q => t2 q.2.symm)]
    exact R2 k
  obtain ⟨s11, a1, a2, a3⟩ := a_ac Z H B9 (k := 10) (by decide)
  have st : f_Re_operand (some 2) (z_g mn) u = if z_g (z_skr kd 10 r).1 = 0 then g_c (g_nn (some 2) (f_Re_accept (some 2) (some 2381) s11)) (fun i12 s13 => if i12 = 0 then g_c (g_nn (some 2) (f_Re_name (some 2) s13)) (fun j14 s15 => g_pL s15 331 (some t) j14 fun s16 => g_c (g_nn (some 2) (f_Re_expect (some 2) (some 1805) s16)) fun _ s18 => g_c (g_nn (some 2) (f_Re_name (some 2) s18)) fun j19 s20 => g_pL s20 395 (some t) j19 fun s21 => g_gR s21 450 (some 2) fun p22 => g_gR s21 582 p22 fun p23 => g_c (g_nn p23 (f_Al_add p23 (some t) s21)) fun _ s25 => some (some t, s25)) else g_gR s13 258 (some 2) fun p26 => g_gI s13 322 (some 2) fun i27 => g_aL s13 p26 (i27 - 1) fun j28 => g_pL s13 267 (some t) j28 fun s29 => some (some t, s29)) else g_pL s11 267 (some t) 1099511627776 fun s30 => some (some t, s30) := by
    unfold f_Re_operand
    rw [x_new (by omega) (by omega), ← ht, ← e2, x_gR, R2, p1, x_gI, I2, p3, x_aI (by omega) (by rw [(a_pl H B2).2.1]; omega), (a_pl H B2).2.2.2.2.2.1, x_gR, R2, x_gR, R2, x_nn]
    unfold f_Te_init
    rw [x_nn, x_pZ, x_pI, x_pR, x_pR, ← e9, x_c, x_nn, show (653 : Nat) = 10 * 64 + 13 from rfl, a1, x_c]
  have sm11 := a3.sm t2
  have nx : g_R s9 651 t = none := by rw [RR9, if_neg (by decide), if_neg (by decide)]
  -- a term that is finished
  have fin : ∀ (s : g_St) (x : Nat × Nat), x.2 = z_pk r → x.1 ≤ 2 → (∀ k, g_I s k t = g_I s9 k t) → (∀ k, g_R s k t = g_R s9 k t) → (x.1 = 1 → g_L s 267 t = 1099511627776) → (x.1 = 0 → g_L s 267 t = wd x.2) → (x.1 = 2 → g_L s 331 t = wd x.2 ∧ g_L s 395 t = wd (x.2 + 2) ∧ wd (x.2 + 2) ≠ 0) → (x.1 ≠ 2 → g_L s 395 t = 0) → E_te pl wd s t (g_R u 514 2) (g_R u 578 2) (mn, x) := by
    intro s x f1 f2 f3 f4 f5 f6 f7 f8
    refine ⟨?_, ?_, ?_, ?_, f5, f6, f7, f8, ?_, ?_, ?_, f2⟩
    · rw [f3, II9, if_neg (by decide), if_pos rfl]
    · rw [f3, II9, if_pos rfl, f1]
    · rw [f4, RR9, if_neg (by decide), if_pos rfl]
    · rw [f4, RR9, if_pos rfl]
    · rw [f4, RR9, if_neg (by decide), if_neg (by decide)]
    · rw [f3, II9, if_neg (by decide), if_neg (by decide)]
    · rw [f3, II9, if_neg (by decide), if_neg (by decide)]
  have okt : E_ok [] u t := by rw [ht]; exact E_ok.new (E_kp.re : E_kp [] u u) (by decide) (by decide)
  rw [← ht]
  -- NULL
  by_cases w1 : (z_skr kd 10 r).1 = true
  · obtain ⟨p, f1, f2, f3⟩ := z_skr_true w1
    have eo : z_opp kd r = .inr (p + 1) := by rw [f1]; unfold z_opp z_op1; simp only []; rw [if_pos f2]
    rw [w1, if_neg (show ¬ z_g true = 0 by decide), x_pL] at st
    rw [f3] at a2
    refine ⟨_, st, ?_, (K9.trans (a3.kp []) (fun a ha => by cases ha)).pL okt _ _, (fun t' h1 h2 => (by show g_cnt s11 t' = _; rw [a3.1]; exact C9 t' h1 h2)), by show g_cnt s11 11 = _; rw [a3.1, n9, hi], ?_, ?_, ?_, ?_, fun p' x q e1 e3 => ?_⟩
    · rw [eo]
      refine (a2.pL Z nw (by decide) _).mono ?_
      rw [f1]
      show 3 * p + d + 1 ≤ 3 * (p + 1) + d + 0
      omega
    · show g_R s11 514 2 = _; rw [a3.2.2.2.2.1, q9]
    · show g_R s11 578 2 = _; rw [a3.2.2.2.2.1, q9]
    · show g_R s11 651 t = _; rw [a3.2.2.2.2.1]; exact nx
    · rw [eo, f1]; show p ≤ p + 1; omega
    · rw [f1] at e1
      cases e1
      unfold z_op1 at e3
      rw [if_pos f2] at e3
      cases e3
      refine ⟨by omega, fin _ (1, p) (by rw [f1]; rfl) (show 1 ≤ 2 by decide) (fun k => (sm11.1 k).1) (fun k => (sm11.1 k).2.2) (fun _ => by rw [x_L_L, if_pos ⟨rfl, rfl⟩]) (fun y => by cases y) (fun y => by cases y) (fun _ => ?_)⟩
      rw [x_L_L, if_neg (fun q => by have := q.1; omega), (sm11.1 395).2.1]; exact L9 _
  · have w1' : (z_skr kd 10 r).1 = false := by cases hh : (z_skr kd 10 r).1 with
      | false => rfl
      | true => exact absurd hh w1
    rw [w1', if_pos (show z_g false = 0 from rfl)] at st
    rw [z_skr_false w1'] at a2
    obtain ⟨s13, b1, b2, b3⟩ := a_ac Z H a2 (k := 37) (by decide)
    rw [x_nn, show (2381 : Nat) = 37 * 64 + 13 from rfl, b1, x_c] at st
    have as13 := a3.trans b3
    have sm13 := as13.sm t2
    by_cases w2 : (z_skr kd 37 r).1 = true
    · -- a number
      obtain ⟨p, f1, f2, f3⟩ := z_skr_true w2
      have nk : kd p ≠ 10 := by omega
      have eo : z_opp kd r = .inr (p + 1) := by rw [f1]; unfold z_opp z_op1; simp only []; rw [if_neg nk, if_pos f2]
      have hp : p < n := by
        have hh := p4
        rw [f1] at hh
        exact H.2.2 p hh (by omega)
      rw [f3] at b2
      have P13 := a_pl H b2
      have e21 : g_AL s13 21 p = wd p := (b2.2.1 p (by omega)).2.2
      rw [w2, if_neg (show ¬ z_g true = 0 by decide), x_gR, P13.2.2.2.2.2.2.1, x_gI, P13.2.2.1, show (1 : Int32) = Int32.ofNat 1 from rfl, x_sub (show 1 ≤ z_pk (.inr (p + 1)) by show 1 ≤ p + 1; omega), show z_pk (.inr (p + 1)) - 1 = p from rfl, x_aL (by omega) (by rw [P13.2.2.2.2.2.2.2.1]; omega), e21, x_pL] at st
      refine ⟨_, st, ?_, (K9.trans (as13.kp []) (fun a ha => by cases ha)).pL okt _ _, (fun t' h1 h2 => (by show g_cnt s13 t' = _; rw [as13.1]; exact C9 t' h1 h2)), by show g_cnt s13 11 = _; rw [as13.1, n9, hi], ?_, ?_, ?_, ?_, fun p' x q e1 e3 => ?_⟩
      · rw [eo]
        refine (b2.pL Z nw (by decide) _).mono ?_
        rw [f1]
        show 3 * p + d + 1 ≤ 3 * (p + 1) + d + 0
        omega
      · show g_R s13 514 2 = _; rw [as13.2.2.2.2.1, q9]
      · show g_R s13 578 2 = _; rw [as13.2.2.2.2.1, q9]
      · show g_R s13 651 t = _; rw [as13.2.2.2.2.1]; exact nx
      · rw [eo, f1]; show p ≤ p + 1; omega
      · rw [f1] at e1
        cases e1
        unfold z_op1 at e3
        rw [if_neg nk, if_pos f2] at e3
        cases e3
        refine ⟨by omega, fin _ (0, p) (by rw [f1]; rfl) (show 0 ≤ 2 by decide) (fun k => (sm13.1 k).1) (fun k => (sm13.1 k).2.2) (fun y => by cases y) (fun _ => by rw [x_L_L, if_pos ⟨rfl, rfl⟩]) (fun y => by cases y) (fun _ => ?_)⟩
        rw [x_L_L, if_neg (fun q => by have := q.1; omega), (sm13.1 395).2.1]; exact L9 _
    · -- a column
      have w2' : (z_skr kd 37 r).1 = false := by cases hh : (z_skr kd 37 r).1 with
        | false => rfl
        | true => exact absurd hh w2
      rw [z_skr_false w2'] at b2
      obtain ⟨v14, s15, d1, d2, d3, d4⟩ := a_nm Z H b2
      have B16 := d2.pL Z nw (k := 331) (by decide) v14
      obtain ⟨s18, g1, g2, g3⟩ := a_ex Z H B16 (k := 28) (by decide)
      obtain ⟨v19, s20, k1, k2, k3, k4⟩ := a_nm Z H g2
      have as15 := as13.trans d3
      have as20 := g3.trans k3
      have sm15 := as15.sm t2
      have sm20 := as20.sm t2
      have n20 : g_cnt s20 11 = i + 1 := by
        rw [as20.1]
        show g_cnt s15 11 = _
        rw [as15.1, n9]
      have l20 : g_L s20 395 t = 0 := by
        rw [(sm20.1 395).2.1, x_L_L, if_neg (fun q => by have := q.1; omega), (sm15.1 395).2.1]; exact L9 _
      have eo : z_opp kd r = z_ndr kd 36 (z_ndr kd 28 (z_ndr kd 36 r)) := by
        cases hr : r with
        | inl q => rfl
        | inr p =>
          rw [hr] at w1 w2
          refine z_opp_e (fun y => w1 ?_) (fun y => w2 ?_)
          · rw [z_skr_t y]
          · rw [z_skr_t y]
      have hlt : ∀ p, z_ndr kd 28 (z_ndr kd 36 r) = .inr p → kd p = 36 → p < n := fun p hp1 hp2 => by
        rw [hp1] at g2
        exact H.2.2 p g2.2.2.1.2.2 (by omega)
      have hv : ∀ p, z_ndr kd 36 (z_ndr kd 28 (z_ndr kd 36 r)) = .inr p → v19 ≠ 0 := fun p hp => by
        obtain ⟨p', y1, y2, y3⟩ := z_ndr_ok hp
        rw [k4 p' y1 y2]
        exact hwd p' (hlt p' y1 y2) y2
      have hB : c.2.2.2.1 11 ≤ i := by rw [hi]; exact h.2.2.2.2.2.1.1 11
      have pk20 : z_pk r ≤ z_pk (z_ndr kd 36 (z_ndr kd 28 (z_ndr kd 36 r))) := Nat.le_trans (z_pk_nd _ _) (Nat.le_trans (z_pk_nd _ _) (z_pk_nd _ _))
      have eti : t = i * 64 + 11 := by rw [ht, hi]
      obtain ⟨u', m1, m2, m3⟩ := a_addc Z k2 (by omega) n20 hB (by rw [← eti]; exact l20) hv
      rw [← eti] at m1 m3
      have al20 : g_al s20 t := by rw [eti, E_alc (by decide), n20]; omega
      have smu : E_sm (g_setL s20 395 t v19) u' t := m3.2.2 t al20 (fun e => by have := Z.2.2.1; rw [← e] at this; omega) (fun e => by have := (k2.2.2.2.1.2 76 (by decide) _ _ e).2.1; have e3 : z_kd 76 = 30 := (by decide); omega)
      have al2 : g_al (g_setL s20 395 t v19) 2 := by
        show 0 < g_cnt s20 2
        have := k2.2.2.2.2.2.1.1 2
        have := Z.2.2.2.2.2.2.2.2.1
        omega
      have ok20 : z_Ok (g_setL s20 395 t v19) := k2.2.2.2.1.same rfl rfl
      have kpu := m3.kp Z.2.2.1 ok20 al2
      have s2u : E_sm (g_setL s20 395 t v19) u' 2 := m3.2.2 2 al2 (fun e => by have := Z.2.2.1; rw [← e] at this; exact absurd this (by decide)) (fun e => by have := (ok20.2 76 (by decide) _ 2 e).2.1; exact absurd this (by decide))
      rw [w2', if_pos (show z_g false = 0 from rfl), x_nn, d1, x_c, x_pL, x_nn, show (1805 : Nat) = 28 * 64 + 13 from rfl, g1, x_c, x_nn, k1, x_c, x_pL, x_gR, show g_R (g_setL s20 395 t v19) 450 2 = some c.1 from k2.2.2.2.2.1.1, x_gR, show g_R (g_setL s20 395 t v19) 582 c.1 = some c.2.2.1 from k2.2.2.2.2.1.2.2, x_nn, m1, x_c] at st
      have K16 : E_kp [] u (g_setL s15 331 t v14) := (K9.trans (as15.kp []) (fun a ha => by cases ha)).pL okt _ _
      have Ru : ∀ k, g_R u' k 2 = g_R u k 2 := fun k => by
        rw [(s2u.1 k).2.2]
        show g_R s20 k 2 = _
        rw [as20.2.2.2.2.1]
        show g_R s15 k 2 = _
        rw [as15.2.2.2.2.1, q9]
      refine ⟨u', st, ?_, ((K16.trans (as20.kp []) (fun a ha => by cases ha)).pL okt _ _).trans kpu (fun a ha => by cases ha), ?_, ?_, Ru _, Ru _, ?_, by rw [eo]; exact pk20, fun p x q e1 e3 => ?_⟩
      · rw [eo]
        refine m2.mono ?_
        cases hh : z_ndr kd 36 (z_ndr kd 28 (z_ndr kd 36 r)) with
        | inl q =>
          rw [hh] at pk20
          have : z_pk r ≤ q := pk20
          show _ ≤ 3 * q + d + 6
          omega
        | inr q =>
          obtain ⟨x1, y1, -, y2⟩ := z_ndr_ok hh
          obtain ⟨x2, y3, -, y4⟩ := z_ndr_ok y1
          obtain ⟨x3, y5, -, y6⟩ := z_ndr_ok y3
          rw [y5]
          show 3 * x3 + d + 1 + 5 ≤ 3 * q + d + 0
          omega
      · intro t' h1 h2
        rw [m3.1 t' h2]
        show g_cnt s20 t' = _
        rw [as20.1]
        show g_cnt s15 t' = _
        rw [as15.1]
        exact C9 t' h1 h2
      · rw [m3.1 11 (by decide)]
        show g_cnt s20 11 = _
        rw [n20, hi]
      · rw [(smu.1 651).2.2]
        show g_R s20 651 t = _
        rw [as20.2.2.2.2.1]
        show g_R s15 651 t = _
        rw [as15.2.2.2.2.1]
        exact nx
      · rw [e1] at w1 w2
        have nk1 : kd p ≠ 10 := fun y => w1 (by rw [z_skr_t y])
        have nk2 : kd p ≠ 37 := fun y => w2 (by rw [z_skr_t y])
        obtain ⟨y1, y2, y3, y4, y5⟩ := z_op1_e nk1 nk2 e3
        have r1 : z_ndr kd 36 r = .inr (p + 1) := by rw [e1, z_ndr_t y3]
        have r2 : z_ndr kd 28 (z_ndr kd 36 r) = .inr (p + 2) := by rw [r1, z_ndr_t y4]
        have ev14 : v14 = wd p := d4 p e1 y3
        have ev19 : v19 = wd (p + 2) := k4 (p + 2) r2 y5
        rw [y1]
        refine ⟨by omega, fin _ (2, p) (by rw [e1]; rfl) (show 2 ≤ 2 by decide) (fun k => ?_) (fun k => ?_) (fun y => by cases y) (fun y => by cases y) (fun _ => ⟨?_, ?_, ?_⟩) (fun y => absurd rfl y)⟩
        · rw [(smu.1 k).1]
          show g_I s20 k t = _
          rw [(sm20.1 k).1]
          show g_I s15 k t = _
          exact (sm15.1 k).1
        · rw [(smu.1 k).2.2]
          show g_R s20 k t = _
          rw [(sm20.1 k).2.2]
          show g_R s15 k t = _
          exact (sm15.1 k).2.2
        · rw [(smu.1 331).2.1, x_L_L, if_neg (fun q => by have := q.1; omega), (sm20.1 331).2.1, x_L_L, if_pos ⟨rfl, rfl⟩, ev14]
        · rw [(smu.1 395).2.1, x_L_L, if_pos ⟨rfl, rfl⟩, ev19]
        · exact hwd (p + 2) (hlt (p + 2) r2 y5) y5
end
