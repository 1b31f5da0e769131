/-! THE ENGINE READS A SOURCE -/
def E_so (pl : Nat → Nat) (wd : Nat → Int64) (u : g_St) (k : Nat) (sel : Option Nat) (slot : Int32) (p : Nat) : Prop := g_R u 9 (k * 64 + 9) = sel ∧ g_I u 73 (k * 64 + 9) = slot ∧ g_I u 137 (k * 64 + 9) = Int32.ofNat (pl p) ∧ g_L u 201 (k * 64 + 9) = wd p ∧ g_I u 265 (k * 64 + 9) = Int32.ofNat (pl (p + 1)) ∧ g_L u 329 (k * 64 + 9) = wd (p + 1) ∧ wd (p + 1) ≠ 0 ∧ g_I u 393 (k * 64 + 9) = -1 ∧ g_I u 457 (k * 64 + 9) = -1
theorem E_so.sm {pl : Nat → Nat} {wd : Nat → Int64} {u v : g_St} {k : Nat} {sel : Option Nat} {slot : Int32} {p : Nat} (h : E_so pl wd u k sel slot p) (s : E_sm u v (k * 64 + 9)) : E_so pl wd v k sel slot p := by
  unfold E_so at *
  rw [(s.1 9).2.2, (s.1 73).1, (s.1 137).1, (s.1 201).2.1, (s.1 265).1, (s.1 329).2.1, (s.1 393).1, (s.1 457).1]
  exact h
theorem E_so.kp {pl : Nat → Nat} {wd : Nat → Int64} {u v : g_St} {k : Nat} {sel : Option Nat} {slot : Int32} {p : Nat} (h : E_so pl wd u k sel slot p) (hc : k < g_cnt u 9) {X : List Nat} (kp : E_kp X u v) (hX : ∀ a ∈ X, a % 64 ≠ 9) : E_so pl wd v k sel slot p := h.sm (kp.at (by rw [E_alc (by decide)]; exact hc) (by rw [(E_num (by decide)).2]; decide) (fun q => hX _ q (E_num (by decide)).2))
section
variable {n : Nat} {kd pl : Nat → Nat} {wd : Nat → Int64} {c : z_Cx}
theorem a_so (Z : E_cx c) (H : z_H n kd) (hwd : ∀ i, i < n → kd i = 36 → wd i ≠ 0) {u : g_St} {r : z_P} {d : Nat} (h : E_b n kd pl wd c u r (3 * z_pk r + d)) (hd : d ≤ 40) (slot : Int32) :
    ∃ u', f_Re_source (some 2) slot u = some (some (g_cnt u 9 * 64 + 9), u') ∧ E_b n kd pl wd c u' (z_sor kd r) (3 * z_pk (z_sor kd r) + d + z_sl (z_sor kd r) 6) ∧ E_kp [] u u' ∧ E_ct [9] u u' ∧ g_cnt u' 9 = g_cnt u 9 + 1 ∧ g_R u' 514 2 = g_R u 514 2 ∧ g_R u' 578 2 = g_R u 578 2 ∧ z_pk r ≤ z_pk (z_sor kd r) ∧ ∀ p q, r = .inr p → z_sor kd r = .inr q → q = p + 2 ∧ E_so pl wd u' (g_cnt u 9) (g_R u 514 2) slot p := by
  obtain ⟨i, hi⟩ : ∃ i, i = g_cnt u 9 := ⟨_, rfl⟩
  obtain ⟨t, ht⟩ : ∃ t, t = g_cnt u 9 * 64 + 9 := ⟨_, rfl⟩
  obtain ⟨p1, p2, p3, p4, p5, p6, -⟩ := a_pl H h
  have rm := h.room Z (by omega)
  have t2 : t ≠ 2 := by omega
  have nw : E_nw c t := by rw [ht]; exact h.new Z (by decide)
  obtain ⟨s2, e2⟩ : ∃ s2, s2 = g_mk u 9 13 0 := ⟨_, rfl⟩
  have R2 : ∀ k, g_R s2 k 2 = g_R u k 2 := fun k => by rw [e2, x_R_mk, if_neg (by omega)]
  have I2 : ∀ k, g_I s2 k 2 = g_I u k 2 := fun k => by rw [e2, x_I_mk, if_neg (by omega)]
  have B2 : E_b n kd pl wd c s2 r (3 * z_pk r + d + 1) := by
    have := h.2.2.2.2.2.2.1
    rw [e2]
    exact h.mk Z (by decide) 13 0 (by omega) (by omega) (by omega)
  obtain ⟨s8, e8⟩ : ∃ s8, s8 = g_setI (g_setI (g_setR (g_setI (g_setI s2 393 t (-1)) 457 t (-1)) 9 t (g_R u 514 2)) 73 t slot) 137 t (Int32.ofNat (pl (z_pk r))) := ⟨_, rfl⟩
  have B8 : E_b n kd pl wd c s8 r (3 * z_pk r + d + 1) := by
    rw [e8]
    exact ((((B2.pI Z nw _ _).pI Z nw _ _).pR Z nw (by decide) (by decide) _).pI Z nw _ _).pI Z nw _ _
  have okt : E_ok [] u t := by rw [ht]; exact E_ok.new (E_kp.re : E_kp [] u u) (by decide) (by decide)
  have K8 : E_kp [] u s8 := by
    rw [e8, e2]
    exact (((((E_kp.re.mk (by decide) (by decide) 13 0).pI okt _ _).pI okt _ _).pR okt _ _).pI okt _ _).pI okt _ _
  have C8 : E_ct [9] u s8 := fun t' h1 h2 => by
    rw [e8, e2]
    show g_cnt (g_mk u 9 13 0) t' = _
    rw [x_cnt_mk, if_neg (fun e => h1 (List.mem_singleton.mpr e))]
  have n8 : g_cnt s8 9 = i + 1 := by
    rw [e8, e2, hi]
    show g_cnt (g_mk u 9 13 0) 9 = _
    rw [x_cnt_mk, if_pos rfl]
  have L8 : ∀ k, g_L s8 k t = 0 := fun k => by
    rw [e8, e2]
    show g_L (g_mk u 9 13 0) k t = 0
    rw [x_L_mk, if_pos ht]
  have q8 : ∀ k, g_R s8 k 2 = g_R u k 2 := fun k => by
    rw [e8]
    show g_R (g_setR (g_setI (g_setI s2 393 t (-1)) 457 t (-1)) 9 t (g_R u 514 2)) k 2 = _
    rw [x_R_R, if_neg (fun q => t2 q.2.symm)]
    exact R2 k
  obtain ⟨v9, s10, a1, a2, a3, a4⟩ := a_nm Z H B8
  have B11 := a2.pL Z nw (k := 201) (by decide) v9
  obtain ⟨P1, P2, P3, P4, P5, P6, -⟩ := a_pl H B11
  obtain ⟨s15, e15⟩ : ∃ s15, s15 = g_setI (g_setL s10 201 t v9) 265 t (Int32.ofNat (pl (z_pk (z_ndr kd 36 r)))) := ⟨_, rfl⟩
  have B15 : E_b n kd pl wd c s15 (z_ndr kd 36 r) (3 * z_pk r + d + 1) := by rw [e15]; exact B11.pI Z nw _ _
  obtain ⟨v16, s17, b1, b2, b3, b4⟩ := a_nm Z H B15
  have sm10 := a3.sm t2
  have sm17 := b3.sm t2
  have n17 : g_cnt s17 9 = i + 1 := by
    rw [b3.1, e15]
    show g_cnt s10 9 = _
    rw [a3.1, n8]
  have l17 : g_L s17 329 t = 0 := by
    rw [(sm17.1 329).2.1, e15]
    show g_L (g_setL s10 201 t v9) 329 t = 0
    rw [x_L_L, if_neg (fun q => by have := q.1; omega), (sm10.1 329).2.1]; exact L8 _
  have hlt : ∀ p, z_ndr kd 36 r = .inr p → kd p = 36 → p < n := fun p hp1 hp2 => by
    rw [hp1] at B15
    exact H.2.2 p B15.2.2.1.2.2 (by omega)
  have hv : ∀ p, z_ndr kd 36 (z_ndr kd 36 r) = .inr p → v16 ≠ 0 := fun p hp => by
    obtain ⟨p', y1, y2, y3⟩ := z_ndr_ok hp
    rw [b4 p' y1 y2]
    exact hwd p' (hlt p' y1 y2) y2
  have hB : c.2.2.2.1 9 ≤ i := by rw [hi]; exact h.2.2.2.2.2.1.1 9
  have eti : t = i * 64 + 9 := by rw [ht, hi]
  obtain ⟨u', m1, m2, m3⟩ := a_adds Z b2 (by omega) n17 hB (by rw [← eti]; exact l17) hv
  rw [← eti] at m1 m3
  have al17 : g_al s17 t := by rw [eti, E_alc (by decide), n17]; omega
  have smu : E_sm (g_setL s17 329 t v16) u' t := m3.2.2 t al17 (fun e => by have := Z.2.1; rw [← e] at this; omega) (fun e => by have := (b2.2.2.2.1.2 76 (by decide) _ _ e).2.1; have e3 : z_kd 76 = 30 := (by decide); omega)
  have al2 : g_al (g_setL s17 329 t v16) 2 := by
    show 0 < g_cnt s17 2
    have := b2.2.2.2.2.2.1.1 2
    have := Z.2.2.2.2.2.2.2.2.1
    omega
  have ok17 : z_Ok (g_setL s17 329 t v16) := b2.2.2.2.1.same rfl rfl
  have kpu := m3.kp Z.2.1 ok17 al2
  have s2u : E_sm (g_setL s17 329 t v16) u' 2 := m3.2.2 2 al2 (fun e => by have := Z.2.1; rw [← e] at this; exact absurd this (by decide)) (fun e => by have := (ok17.2 76 (by decide) _ 2 e).2.1; exact absurd this (by decide))
  have st : f_Re_source (some 2) slot u = some (some t, u') := by
    unfold f_Re_source
    rw [x_new (by omega) (by omega), ← ht, ← e2, x_gR, R2, x_gR, R2, p1, x_gI, I2, p3, x_aI (by omega) (by rw [(a_pl H B2).2.1]; omega), (a_pl H B2).2.2.2.2.2.1, x_nn]
    unfold f_So_init
    rw [x_nn, x_pI, x_pI, x_pR, x_pI, x_pI, ← e8, x_c, x_nn, a1, x_c, x_pL, x_gR, P1, x_gI, P3, x_aI (by omega) (by rw [P2]; omega), P6, x_pI, ← e15, x_nn, b1, x_c, x_pL, x_gR, show g_R (g_setL s17 329 t v16) 450 2 = some c.1 from b2.2.2.2.2.1.1, x_gR, show g_R (g_setL s17 329 t v16) 518 c.1 = some c.2.1 from b2.2.2.2.2.1.2.1, x_nn, m1, x_c]
  have pk : z_pk r ≤ z_pk (z_sor kd r) := Nat.le_trans (z_pk_nd 36 r) (z_pk_nd 36 _)
  have Ru : ∀ k, g_R u' k 2 = g_R u k 2 := fun k => by
    rw [(s2u.1 k).2.2]
    show g_R s17 k 2 = _
    rw [b3.2.2.2.2.1, e15]
    show g_R s10 k 2 = _
    rw [a3.2.2.2.2.1, q8]
  have K15 : E_kp [] u s15 := by
    rw [e15]
    exact ((K8.trans (a3.kp []) (fun a ha => by cases ha)).pL okt _ _).pI okt _ _
  rw [← ht]
  refine ⟨u', st, ?_, ((K15.trans (b3.kp []) (fun a ha => by cases ha)).pL okt _ _).trans kpu (fun a ha => by cases ha), ?_, ?_, Ru _, Ru _, pk, fun p q e1 e3 => ?_⟩
  · refine m2.mono ?_
    show 3 * z_pk r + d + 1 + 5 ≤ _
    cases hh : z_sor kd r with
    | inl q =>
      rw [hh] at pk
      have : z_pk r ≤ q := pk
      show _ ≤ 3 * q + d + 6
      omega
    | inr q =>
      obtain ⟨x1, y1, -, y2⟩ := z_ndr_ok (show z_ndr kd 36 (z_ndr kd 36 r) = .inr q from hh)
      obtain ⟨x2, y3, -, y4⟩ := z_ndr_ok y1
      rw [y3]
      show 3 * x2 + d + 1 + 5 ≤ 3 * q + d + 0
      omega
  · intro t' h1 h2
    rw [m3.1 t' h2]
    show g_cnt s17 t' = _
    rw [b3.1, e15]
    show g_cnt s10 t' = _
    rw [a3.1]
    exact C8 t' h1 h2
  · rw [m3.1 9 (by decide)]
    show g_cnt s17 9 = _
    rw [n17, hi]
  · obtain ⟨x1, y1, z1, y2⟩ := z_ndr_ok (show z_ndr kd 36 (z_ndr kd 36 r) = .inr q from e3)
    obtain ⟨x2, y3, z2, y4⟩ := z_ndr_ok y1
    rw [e1] at y3
    cases y3
    have ev9 : v9 = wd p := a4 p e1 z2
    have ev16 : v16 = wd (p + 1) := by rw [b4 x1 y1 z1, y4]
    have ep : z_pk r = p := by rw [e1]; rfl
    have ep2 : z_pk (z_ndr kd 36 r) = p + 1 := by rw [y1, y4]; rfl
    have Iu : ∀ k, g_I u' k t = if k = 265 then Int32.ofNat (pl (p + 1)) else g_I s8 k t := fun k => by
      rw [(smu.1 k).1]
      show g_I s17 k t = _
      rw [(sm17.1 k).1, e15, x_I_I]
      by_cases y : k = 265
      · rw [if_pos ⟨y, rfl⟩, if_pos y, ep2]
      · rw [if_neg (fun q => y q.1), if_neg y]
        exact (sm10.1 k).1
    have I8 : ∀ k, g_I s8 k t = if k = 137 then Int32.ofNat (pl p) else if k = 73 then slot else if k = 457 then -1 else if k = 393 then -1 else 0 := fun k => by
      rw [e8, x_I_I, x_I_I]
      show (if _ then _ else if _ then _ else g_I (g_setI (g_setI s2 393 t (-1)) 457 t (-1)) k t) = _
      rw [x_I_I, x_I_I, e2, x_I_mk, if_pos ht, ep]
      by_cases y1 : k = 137
      · rw [if_pos ⟨y1, rfl⟩, if_pos y1]
      · rw [if_neg (fun q => y1 q.1), if_neg y1]
        by_cases y2 : k = 73
        · rw [if_pos ⟨y2, rfl⟩, if_pos y2]
        · rw [if_neg (fun q => y2 q.1), if_neg y2]
          by_cases y3 : k = 457
          · rw [if_pos ⟨y3, rfl⟩, if_pos y3]
          · rw [if_neg (fun q => y3 q.1), if_neg y3]
            by_cases y4 : k = 393
            · rw [if_pos ⟨y4, rfl⟩, if_pos y4]
            · rw [if_neg (fun q => y4 q.1), if_neg y4]
    unfold E_so
    rw [← ht]
    refine ⟨by omega, ?_, ?_, ?_, ?_, ?_, ?_, ?_, ?_, ?_⟩
    · rw [(smu.1 9).2.2]
      show g_R s17 9 t = _
      rw [(sm17.1 9).2.2, e15]
      show g_R s10 9 t = _
      rw [(sm10.1 9).2.2, e8]
      show g_R (g_setR (g_setI (g_setI s2 393 t (-1)) 457 t (-1)) 9 t (g_R u 514 2)) 9 t = _
      rw [x_R_R, if_pos ⟨rfl, rfl⟩]
    · rw [Iu, if_neg (by decide), I8, if_neg (by decide), if_pos rfl]
    · rw [Iu, if_neg (by decide), I8, if_pos rfl]
    · rw [(smu.1 201).2.1, x_L_L, if_neg (fun q => by have := q.1; omega), (sm17.1 201).2.1, e15]
      show g_L (g_setL s10 201 t v9) 201 t = _
      rw [x_L_L, if_pos ⟨rfl, rfl⟩, ev9]
    · rw [Iu, if_pos rfl]
    · rw [(smu.1 329).2.1, x_L_L, if_pos ⟨rfl, rfl⟩, ev16]
    · have := hwd x1 (hlt x1 y1 z1) z1
      rw [y4] at this
      exact this
    · rw [Iu, if_neg (by decide), I8, if_neg (by decide), if_neg (by decide), if_neg (by decide), if_pos rfl]
    · rw [Iu, if_neg (by decide), I8, if_neg (by decide), if_neg (by decide), if_pos rfl]
end
