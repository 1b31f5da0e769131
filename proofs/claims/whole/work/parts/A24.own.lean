/-! THE ENGINE READS A QUERY: from its own selection on -/
def E_qu (pl : Nat → Nat) (wd : Nat → Int64) (c : z_Cx) (u : g_St) (A O : Nat) (b : Nat → Nat) (x : z_Qu) : Prop := (g_I u 134 c.1 = z_g x.1 ∧ g_I u 70 c.1 = Int32.ofNat x.2.1.length ∧ x.2.1.length ≤ 4 ∧ g_I u 454 c.1 = 0) ∧ E_qA c u A O ∧ (∀ m, m < x.2.1.length → g_AR u A m = some ((b 7 + m) * 64 + 7) ∧ E_pa pl wd u (b 7 + m) (b 8 + z_tot (x.2.1.take m)) (b 11 + z_S z_ntp (x.2.1.take m)) (b 10 + z_S z_ncp (x.2.1.take m)) (b 9 + z_S z_nsp (x.2.1.take m)) b (Int32.ofNat m) (x.2.1.getD m z_pa0)) ∧ g_R u 198 c.1 = some ((b 8 + z_tot x.2.1) * 64 + 8) ∧ E_se pl wd u (b 8 + z_tot x.2.1) (b 11 + z_S z_ntp x.2.1) (b 10 + z_S z_ncp x.2.1) (b 9 + z_S z_nsp x.2.1) b (Int32.ofNat x.2.1.length) x.2.2.1 ∧ (g_cnt u 7 = b 7 + x.2.1.length ∧ g_cnt u 8 = b 8 + z_tot x.2.1 + 1 ∧ g_cnt u 9 = b 9 + z_S z_nsp x.2.1 + z_nss x.2.2.1 ∧ g_cnt u 10 = b 10 + z_S z_ncp x.2.1 + z_ncs x.2.2.1) ∧ match x.2.2.2 with
  | none => g_I u 326 c.1 = 0 ∧ g_cnt u 11 = b 11 + z_S z_ntp x.2.1 + z_nts x.2.2.1
  | some y => g_I u 326 c.1 = Int32.ofNat y.2.length ∧ g_I u 390 c.1 = Int32.ofNat (pl y.1) ∧ y.2.length ≤ 2 ∧ g_cnt u 11 = b 11 + z_S z_ntp x.2.1 + z_nts x.2.2.1 + y.2.length ∧ E_ors pl wd u O (b 11 + z_S z_ntp x.2.1 + z_nts x.2.2.1) (some ((b 8 + z_tot x.2.1) * 64 + 8)) y.2
theorem E_qA.of {c : z_Cx} {u v : g_St} {A O : Nat} (h : E_qA c u A O) (hc : ∀ t, g_cnt u t ≤ g_cnt v t) (h1 : ∀ k, k ≠ 198 → g_R v k c.1 = g_R u k c.1) (h2 : g_ln v A = g_ln u A ∧ g_ln v O = g_ln u O) : E_qA c v A O := by
  obtain ⟨a1, a2, ⟨b1, b2⟩, ⟨c1, c2⟩, d1, d2⟩ := h
  exact ⟨a1, a2, ⟨E_alm hc b1, E_alm hc b2⟩, ⟨by rw [h1 _ (by decide)]; exact c1, by rw [h1 _ (by decide)]; exact c2⟩, by rw [h2.1]; exact d1, by rw [h2.2]; exact d2⟩
section
variable {n : Nat} {kd pl : Nat → Nat} {wd vl : Nat → Int64} {c : z_Cx} {A O : Nat} {u0 : g_St}
theorem a_235 (H : z_H n kd) {u : g_St} {r : z_P} {w : Nat} (h : E_b n kd pl wd c u r w) : f_Re_read_235 (some 2) u = some (match z_w4 kd r with | none => some c.1 | some _ => none, u) := by
  obtain ⟨p1, p2, p3, p4, p5, p6, p7, p8, p9, p10, p11, -⟩ := a_pl H h
  unfold f_Re_read_235
  cases r with
  | inl q => rw [x_gI, h.2.2.1.1, if_neg (by decide)]; rfl
  | inr q =>
    have e3 : g_I u 322 2 = Int32.ofNat q := p3
    have e4 : q ≤ n := p4
    have e11 : g_AR u 23 q = some (kd q * 64 + 13) := p11
    rw [x_gI, h.2.2.1.1, if_pos rfl, x_gR, p9, x_gI, e3, x_aR (by omega) (by rw [p10]; omega), e11]
    by_cases w : kd q = 38
    · have : z_w4 kd (.inr q) = none := by unfold z_w4; simp only []; rw [if_pos w]
      rw [this, if_pos (by rw [w]), x_gR, h.2.2.2.2.1.1]
    · have : z_w4 kd (.inr q) = some q := by unfold z_w4; simp only []; rw [if_neg w]
      rw [this, if_neg (fun y => w (by have := Option.some.inj y; omega))]
theorem z_w2_s (r : z_P) : (z_w2 kd vl r).2 = z_sep kd vl r := by cases r <;> rfl
theorem a_187 (Z : E_cx c) (H : z_H n kd) (hwd : ∀ i, i < n → kd i = 36 → wd i ≠ 0) (hvl : ∀ i, i < n → kd i = 37 → wd i = vl i) (hA : E_qA c u0 A O) (hO : O / 64 < g_cnt u0 26) {r : z_P} {d : Nat} (hd : d ≤ 23) {u : g_St} {l : List z_Pa} (hl : l.length ≤ 4) (hb : E_b n kd pl wd c u r (3 * z_pk r + d + z_sl r 8)) (hf : E_pf c A u0 u) (hs : ∀ q, r = .inr q → E_pas pl wd c A u0 u l) (hz : g_I u0 326 c.1 = 0 ∧ g_I u0 454 c.1 = 0) {bz : Bool} (h134 : g_I u0 134 c.1 = z_g bz) :
    ∃ u' w, f_Re_read_187 (some 2) u = some (match z_w4 kd (z_w3 kd (z_w2 kd vl r).2).2 with | none => some c.1 | some _ => none, u') ∧ E_b n kd pl wd c u' (z_w3 kd (z_w2 kd vl r).2).2 w ∧ w ≤ 3 * n + 40 ∧ (z_w4 kd (z_w3 kd (z_w2 kd vl r).2).2 = none → E_qu pl wd c u' A O (g_cnt u0) (bz, l, (z_w2 kd vl r).1, (z_w3 kd (z_w2 kd vl r).2).1)) := by
  have hAu := hA
  obtain ⟨⟨mA, mO⟩, ⟨nA, nO⟩, ⟨lA, lO⟩, ⟨rA, rO⟩, zA, zO⟩ := hA
  have nq := Z.q
  have q2 := nq.ne2
  have mq := Z.1
  have hn := H.2.1
  obtain ⟨f1, f2, f3, f4, f5⟩ := hf
  obtain ⟨D, hD⟩ : ∃ D, D = d + z_sl r 8 := ⟨_, rfl⟩
  have hD31 : D ≤ 31 := by have := z_sl_le r 8; omega
  have hb' : E_b n kd pl wd c u r (3 * z_pk r + D) := by rw [hD, ← Nat.add_assoc]; exact hb
  have alq : g_al u c.1 := hb.2.2.2.2.2.1.2.1
  have alA : g_al u A := E_alm f1.1 lA
  have alO : g_al u O := E_alm f1.1 lO
  obtain ⟨s5, a1, a2, a3, a4, a5, a6, a7, a8, a9⟩ := a_sel (vl := vl) Z H hwd hvl hb' hD31 (g_I u 70 c.1)
  have sq : E_sm u s5 c.1 := a3.at alq (by rw [mq]; decide) (by simp)
  have sA : E_sm u s5 A := a3.at alA (by rw [mA]; decide) (by simp)
  have sO : E_sm u s5 O := a3.at alO (by rw [mO]; decide) (by simp)
  obtain ⟨S, hS⟩ : ∃ S, S = g_cnt u 8 * 64 + 8 := ⟨_, rfl⟩
  rw [← hS] at a1 a7
  have B6 := a2.pR Z nq (k := 198) (by decide) (by decide) (some S)
  obtain ⟨p1, p2, p3, p4, p5, p6, -⟩ := a_pl H B6
  obtain ⟨s11, e11⟩ : ∃ s11, s11 = g_setI (g_setR s5 198 c.1 (some S)) 390 c.1 (Int32.ofNat (pl (z_pk (z_sep kd vl r)))) := ⟨_, rfl⟩
  have B11 : E_b n kd pl wd c s11 (z_sep kd vl r) (3 * z_pk (z_sep kd vl r) + D + z_sl (z_sep kd vl r) 7) := by rw [e11]; exact B6.pI Z nq _ _
  have K11 : E_kp [c.1] u s11 := by rw [e11]; exact ((a3.mono (fun a ha => by cases ha)).pR ⟨q2, Or.inl (by simp)⟩ _ _).pI ⟨q2, Or.inl (by simp)⟩ _ _
  have R11 : ∀ k a, g_R s11 k a = if k = 198 ∧ a = c.1 then some S else g_R s5 k a := fun k a => by rw [e11]; exact x_R_R _ _ _ _ _ _
  have I11 : ∀ k, g_I s11 k c.1 = if k = 390 then Int32.ofNat (pl (z_pk (z_sep kd vl r))) else g_I u k c.1 := fun k => by
    rw [e11, x_I_I]
    by_cases y : k = 390
    · rw [if_pos ⟨y, rfl⟩, if_pos y]
    · rw [if_neg (fun q => y q.1), if_neg y]
      exact (sq.1 k).1
  have c11 : g_cnt s11 = g_cnt s5 := by rw [e11]; rfl
  have ln11 : g_ln s11 = g_ln s5 := by rw [e11]; rfl
  have AR11 : g_AR s11 = g_AR s5 := by rw [e11]; rfl
  obtain ⟨s13, b1, b2, b3⟩ := a_ac Z H B11 (k := 24) (by decide)
  have st : f_Re_read_187 (some 2) u = if z_g (z_skr kd 24 (z_sep kd vl r)).1 = 0 then f_Re_read_235 (some 2) s13 else g_c (g_nn (some 2) (f_Re_order (some 2) s13)) fun _ s15 => f_Re_read_235 (some 2) s15 := by
    unfold f_Re_read_187
    rw [x_gR, hb.2.2.2.2.1.1, x_gR, hb.2.2.2.2.1.1, x_gI, x_nn, a1, x_c, x_pR, x_gR, B6.2.2.2.2.1.1, x_gR, p1, x_gI, p3, x_aI (by omega) (by rw [p2]; omega), p6, x_pI, ← e11, x_nn, show (1549 : Nat) = 24 * 64 + 13 from rfl, b1, x_c]
  have A13 : E_qA c s13 A O := hAu.of (fun t => by rw [b3.1, c11]; exact Nat.le_trans (f1.1 t) (a3.1 t)) (fun k hk => by rw [b3.2.2.2.2.1, R11, if_neg (fun q => hk q.1), (sq.1 k).2.2]; exact f3 k) ⟨by rw [b3.2.2.2.2.2.2.2.2.1, ln11, sA.2.2.2.2]; exact f5, by rw [b3.2.2.2.2.2.2.2.2.1, ln11, sO.2.2.2.2, (f1.at lO (by rw [mO]; decide) (fun q => by
    simp only [List.mem_cons, List.not_mem_nil, or_false] at q
    rcases q with e | e
    · rw [e, mq] at mO; exact absurd mO (by decide)
    · rw [e, mA] at mO; exact absurd mO (by decide))).2.2.2.2]⟩
  rw [z_w2_s]
  -- what stands in the query when the own selection is read
  have XP : ∀ Y : List Nat, (∀ a ∈ Y, a = c.1 ∨ a = A ∨ a = O) → E_Xp (g_cnt u0) Y := fun Y hY a ha => by
    rcases hY a ha with e | e | e
    · rw [e]; omega
    · rw [e]; omega
    · rw [e]
      refine ⟨by omega, by omega, by omega, by omega, by omega, fun _ => ?_⟩
      rw [mO]; exact hO
  have base : ∀ q0 q, r = .inr q0 → z_sep kd vl r = .inr q → ∀ v, E_kp [c.1, O] s13 v → (∀ k, g_R v k c.1 = g_R s13 k c.1) → (∀ k, k ≠ 326 → g_I v k c.1 = g_I s13 k c.1) → g_ln v O = g_ln s13 O → E_ct [11] s13 v → ((g_I v 134 c.1 = z_g bz ∧ g_I v 70 c.1 = Int32.ofNat l.length ∧ l.length ≤ 4 ∧ g_I v 454 c.1 = 0) ∧ E_qA c v A O ∧ (∀ m, m < l.length → g_AR v A m = some ((g_cnt u0 7 + m) * 64 + 7) ∧ E_pa pl wd v (g_cnt u0 7 + m) (g_cnt u0 8 + z_tot (l.take m)) (g_cnt u0 11 + z_S z_ntp (l.take m)) (g_cnt u0 10 + z_S z_ncp (l.take m)) (g_cnt u0 9 + z_S z_nsp (l.take m)) (g_cnt u0) (Int32.ofNat m) (l.getD m z_pa0)) ∧ g_R v 198 c.1 = some ((g_cnt u0 8 + z_tot l) * 64 + 8) ∧ E_se pl wd v (g_cnt u0 8 + z_tot l) (g_cnt u0 11 + z_S z_ntp l) (g_cnt u0 10 + z_S z_ncp l) (g_cnt u0 9 + z_S z_nsp l) (g_cnt u0) (Int32.ofNat l.length) (z_ser kd vl q0).1 ∧ (g_cnt v 7 = g_cnt u0 7 + l.length ∧ g_cnt v 8 = g_cnt u0 8 + z_tot l + 1 ∧ g_cnt v 9 = g_cnt u0 9 + z_S z_nsp l + z_nss (z_ser kd vl q0).1 ∧ g_cnt v 10 = g_cnt u0 10 + z_S z_ncp l + z_ncs (z_ser kd vl q0).1)) ∧ g_cnt s13 11 = g_cnt u0 11 + z_S z_ntp l + z_nts (z_ser kd vl q0).1 := by
    intro q0 q hr hq v k1 k2 k3 k4 k5
    obtain ⟨g1, ⟨g7, g8, g9, g10, g11⟩, gp⟩ := hs q0 hr
    obtain ⟨x1, x2, x3, x4⟩ := a9 q0 q hr hq
    have c13 : ∀ t, g_cnt s13 t = g_cnt s5 t := fun t => by rw [b3.1, c11]
    have I13 : ∀ k, g_I s13 k c.1 = if k = 390 then Int32.ofNat (pl (z_pk (z_sep kd vl r))) else g_I u k c.1 := fun k => by rw [((b3.sm q2).1 k).1, I11]
    have K13 : E_kp [c.1] u s13 := K11.trans (b3.kp [c.1]) (fun a ha => Or.inl ha)
    have K5v : E_kp [c.1, O] s5 v := by
      have z1 : E_kp [c.1, O] s5 s11 := by rw [e11]; exact (E_kp.re.pR ⟨q2, Or.inl (by simp)⟩ _ _).pI ⟨q2, Or.inl (by simp)⟩ _ _
      exact (z1.trans (b3.kp [c.1, O]) (fun a ha => Or.inl ha)).trans k1 (fun a ha => Or.inl ha)
    have Kuv : E_kp [c.1, O] u v := (K13.mono (fun a ha => Or.inl (by rw [List.mem_singleton.mp ha]; simp))).trans k1 (fun a ha => Or.inl ha)
    have XO : E_Xp (g_cnt u0) [c.1, O] := XP _ (fun a ha => by simp only [List.mem_cons, List.not_mem_nil, or_false] at ha; omega)
    have neAO : A ∉ [c.1, O] := fun q => by
      simp only [List.mem_cons, List.not_mem_nil, or_false] at q
      rcases q with e | e
      · rw [e, mq] at mA; exact absurd mA (by decide)
      · rw [e, mO] at mA; exact absurd mA (by decide)
    have sAv : E_sm u v A := Kuv.at alA (by rw [mA]; decide) neAO
    rw [g1, g8, g9, g10, g11] at x4
    rw [g11] at x1
    rw [g9] at x2
    rw [g10] at x3
    refine ⟨⟨⟨?_, ?_, hl, ?_⟩, ?_, fun m hm => ⟨?_, (gp m hm).2.kp Kuv XO⟩, ?_, ?_, ⟨?_, ?_, ?_, ?_⟩⟩, ?_⟩
    · rw [k3 134 (by decide), I13, if_neg (by decide), f4 134 (by decide)]; exact h134
    · rw [k3 70 (by decide), I13, if_neg (by decide)]; exact g1
    · rw [k3 454 (by decide), I13, if_neg (by decide), f4 454 (by decide)]; exact hz.2
    · exact A13.of k1.1 (fun k _ => k2 k) ⟨(k1.at A13.2.2.1.1 (by rw [mA]; decide) neAO).2.2.2.2, k4⟩
    · rw [sAv.2.2.2.1]; exact (gp m hm).1
    · rw [k2, b3.2.2.2.2.1, R11, if_pos ⟨rfl, rfl⟩, hS, g8]
    · exact (x4.b (fun t => f1.1 t)).kp K5v (fun a ha => ⟨(XO a ha).2.1, (XO a ha).2.2.1, (XO a ha).2.2.2.1, (XO a ha).2.2.2.2.1, fun q => (XO a ha).2.2.2.2.2 (by omega)⟩)
    · rw [k5 7 (by decide) (by decide), c13, a4 7 (by decide) (by decide)]; exact g7
    · rw [k5 8 (by decide) (by decide), c13, a5, g8]
    · rw [k5 9 (by decide) (by decide), c13, x2]
    · rw [k5 10 (by decide) (by decide), c13, x3]
    · rw [c13, x1]
  rcases z_skr_c 24 (z_sep kd vl r) with ⟨w1, q, g1, g2, g3⟩ | ⟨w1, g1, g2⟩
  · -- ORDER BY
    rw [w1, if_neg (show ¬ z_g true = 0 by decide)] at st
    rw [g3] at b2
    have hr0 : ∃ q0, r = .inr q0 := by
      cases hh : r with
      | inl y => rw [hh] at g1; cases g1
      | inr y => exact ⟨y, rfl⟩
    obtain ⟨q0, hr0⟩ := hr0
    have eD : D = d := by rw [hD, hr0]; rfl
    have e3 : z_w3 kd (z_sep kd vl r) = (some (q, (z_ors kd q).1), (z_ors kd q).2) := by rw [g1]; unfold z_w3; simp only []; rw [if_pos g2]
    have B13 : E_b n kd pl wd c s13 (.inr (q + 1)) (3 * (q + 1) + D) := b2.mono (by rw [g1]; show 3 * q + D + 0 ≤ _; omega)
    have h326 : g_I s13 326 c.1 = 0 := by rw [((b3.sm q2).1 _).1, I11, if_neg (by decide), f4 326 (by decide)]; exact hz.1
    have h578 : g_R s13 578 2 = none := by rw [b3.2.2.2.2.1, R11, if_neg (fun q => q2 q.2.symm)]; exact a8
    have h514 : g_R s13 514 2 = some S := by rw [b3.2.2.2.2.1, R11, if_neg (fun q => q2 q.2.symm)]; exact a7
    obtain ⟨s15, k1, k2, k3, k4, k5, k6⟩ := a_ord Z H hwd (d := D) (by omega) A13 B13 h578 h326
    have e235 := a_235 H k2
    rw [x_nn, k1, x_c, e235] at st
    rw [e3]
    refine ⟨s15, _, st, k2, ?_, fun hw4 => ?_⟩
    · have := z_sl_le (z_ors kd q).2 6
      have := (a_pl H k2).2.2.2.1
      omega
    · cases hy : (z_ors kd q).2 with
      | inl y => rw [hy] at hw4; cases hw4
      | inr y =>
        obtain ⟨o1, o2, o3⟩ := k6 y hy
        obtain ⟨z1, z2⟩ := base q0 q hr0 g1 s15 k3.1 k3.2.2.1 k3.2.2.2.1 k3.2.2.2.2.1 k3.2.1
        have e8 : g_cnt u 8 = g_cnt u0 8 + z_tot l := (hs q0 hr0).2.1.2.1
        have ew : (z_w2 kd vl r).1 = (z_ser kd vl q0).1 := by rw [hr0]; rfl
        rw [ew]
        obtain ⟨z11, z12, z13, z14, z15, z16⟩ := z1
        refine ⟨z11, z12, z13, z14, z15, z16, o1, ?_, k5, by rw [o2, z2], ?_⟩
        · rw [k3.2.2.2.1 390 (by decide), ((b3.sm q2).1 _).1, I11, if_pos rfl, g1]; rfl
        · rw [z2, h514, hS, e8] at o3
          exact o3
  · rw [w1, if_pos (show z_g false = 0 from rfl)] at st
    rw [g1] at b2
    have e235 := a_235 H b2
    rw [e235] at st
    have e3 : z_w3 kd (z_sep kd vl r) = (none, z_sep kd vl r) := by
      cases hh : z_sep kd vl r with
      | inl y => rfl
      | inr y => unfold z_w3; simp only []; rw [if_neg (g2 y hh)]
    rw [e3]
    refine ⟨s13, _, st, b2, ?_, fun hw4 => ?_⟩
    · have := z_sl_le (z_sep kd vl r) 7
      have := (a_pl H b2).2.2.2.1
      omega
    · cases hy : z_sep kd vl r with
      | inl y => rw [hy] at hw4; cases hw4
      | inr y =>
        have hr0 : ∃ q0, r = .inr q0 := by
          cases hh : r with
          | inl y => rw [hh] at hy; cases hy
          | inr y => exact ⟨y, rfl⟩
        obtain ⟨q0, hr0⟩ := hr0
        obtain ⟨z1, z2⟩ := base q0 y hr0 hy s13 E_kp.re (fun _ => rfl) (fun _ _ => rfl) rfl E_ct.re
        obtain ⟨z11, z12, z13, z14, z15, z16⟩ := z1
        have ew : (z_w2 kd vl r).1 = (z_ser kd vl q0).1 := by rw [hr0]; rfl
        rw [ew]
        refine ⟨z11, z12, z13, z14, z15, z16, ?_, z2⟩
        rw [((b3.sm q2).1 _).1, I11, if_neg (by decide), f4 326 (by decide)]; exact hz.1
end
