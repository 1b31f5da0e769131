/-! THE ENGINE READS A TEXT -/
def z_bq (v : g_St) (t : Nat) : Nat := if t = 12 then g_cnt v 12 + 2 else if t = 6 ∨ t = 24 ∨ t = 26 then g_cnt v t + 1 else g_cnt v t
def z_rr (kd : Nat → Nat) (vl : Nat → Int64) : z_P := (z_w3 kd (z_w2 kd vl (z_w1 kd vl).2).2).2
section
variable {n : Nat} {kd pl : Nat → Nat} {wd vl : Nat → Int64}
theorem a_rd (H : z_H n kd) (hwd : ∀ i, i < n → kd i = 36 → wd i ≠ 0) (hvl : ∀ i, i < n → kd i = 37 → wd i = vl i) {s0 v : g_St} (hcut : f_Re_cut (some 2) s0 = some ((), v)) (h1 : e_Fix v) (h2 : z_tkE v n kd pl wd) (h4 : z_Ok v) (h5 : ∀ a ∈ z_prot, g_al v a) (h6 : 1 ≤ g_cnt v 2 ∧ 1 ≤ g_cnt v 30) (r1 : g_cn v + 6510 ≤ 601024) (r2 : g_sn v + 195030 ≤ 7293034) :
    ∃ u' w, f_Re_read (some 2) s0 = some (match z_qed kd vl with | none => some (z_cx v).1 | some _ => none, u') ∧ E_cx (z_cx v) ∧ E_b n kd pl wd (z_cx v) u' (z_rr kd vl) w ∧ w ≤ 3 * n + 40 ∧ (z_qed kd vl = none → E_qu pl wd (z_cx v) u' (g_cnt v 24 * 64 + 24) (g_cnt v 26 * 64 + 26) (z_bq v) (z_qry kd vl)) := by
  obtain ⟨u, eu⟩ : ∃ u, u = g_setI (g_setI v 322 2 0) 386 2 0 := ⟨_, rfl⟩
  have A : E_as v u := by rw [eu]; exact (E_as.set (Or.inl rfl) _).trans (E_as.set (Or.inr rfl) _)
  have fxu : e_Fix u := by rw [eu]; exact h1
  have tku : z_tkE u n kd pl wd := by rw [eu]; exact h2
  have psu : E_ps u n (.inr 0) := by
    show g_I u 386 2 = 0 ∧ g_I u 322 2 = Int32.ofNat 0 ∧ 0 ≤ n
    rw [eu, x_I_I, if_pos ⟨rfl, rfl⟩, x_I_I, if_neg (fun q => by have := q.1; omega), x_I_I, if_pos ⟨rfl, rfl⟩]
    exact ⟨rfl, rfl, Nat.zero_le _⟩
  have ez : z_cx u = z_cx v := by unfold z_cx; rw [A.1, A.2.1, A.2.2.1]
  obtain ⟨s9, m1, Z, B9, Q9, I9, c9, -⟩ := a_newq (pl := pl) (wd := wd) H fxu tku psu (h4.same A.1 A.2.2.2.2.1) (fun a ha => by show _ < g_cnt u _; rw [A.1]; exact h5 a ha) (by rw [A.1]; exact h6) (by rw [A.2.1]; exact r1) (by rw [A.2.2.1]; exact r2)
  rw [ez] at m1 Z B9 Q9 I9
  rw [A.1] at Q9 c9
  have nq := Z.q
  have q2 := nq.ne2
  have bq : g_cnt s9 = z_bq v := funext fun t => c9 t
  obtain ⟨s11, a1, a2, a3⟩ := a_ac Z H B9 (k := 0) (by decide)
  have st : f_Re_read (some 2) s0 = if z_g (z_skr kd 0 (.inr 0)).1 = 0 then f_Re_read_187 (some 2) s11 else g_gR s11 450 (some 2) fun p12 => g_c (g_nn (some 2) (f_Re_accept (some 2) (some 77) s11)) fun i13 s14 => g_pZ s14 134 p12 i13 fun s15 => f_Re_read_53 200000 (some 2) 1 0 s15 := by
    unfold f_Re_read
    rw [x_nn, hcut, x_c, x_pI, show (0 : Int32) = z_g false from rfl, x_pZ]
    have e' : g_setI (g_setI v 322 2 (z_g false)) 386 2 (z_g false) = u := by rw [eu]; rfl
    rw [e']
    refine (m1 _).trans ?_
    rw [x_nn, show (13 : Nat) = 0 * 64 + 13 from rfl, a1, x_c]
  have I11 : ∀ k, g_I s11 k (z_cx v).1 = 0 := fun k => by rw [((a3.sm q2).1 k).1]; exact I9 k
  have Q11 : E_qA (z_cx v) s11 (g_cnt v 24 * 64 + 24) (g_cnt v 26 * 64 + 26) := Q9.of (fun t => by rw [a3.1]; exact Nat.le_refl _) (fun k _ => by rw [a3.2.2.2.2.1]) ⟨by rw [a3.2.2.2.2.2.2.2.2.1], by rw [a3.2.2.2.2.2.2.2.2.1]⟩
  have o26 : ∀ w : g_St, g_cnt w = g_cnt s9 → (g_cnt v 26 * 64 + 26) / 64 < g_cnt w 26 := fun w hw => by
    rw [hw, c9, if_neg (by decide), if_pos (by omega), (E_num (by decide)).1]; omega
  by_cases w : kd 0 = 0
  · rw [z_skr_t w] at a2
    obtain ⟨s14, b1, b2, b3⟩ := a_ac Z H a2 (k := 1) (by decide)
    obtain ⟨s15, e15⟩ : ∃ s15, s15 = g_setI s14 134 (z_cx v).1 (z_g (z_skr kd 1 (.inr (0 + 1))).1) := ⟨_, rfl⟩
    rw [z_skr_t w, if_neg (show ¬ z_g (true, (.inr (0 + 1) : z_P)).1 = 0 from (show ¬ z_g true = 0 by decide)), x_gR, a2.2.2.2.2.1.1, x_nn, show (77 : Nat) = 1 * 64 + 13 from rfl, b1, x_c, x_pZ, ← e15] at st
    have e1 : (z_skr kd 1 (.inr (0 + 1))) = (decide (kd 0 = 0 ∧ kd 1 = 1), .inr (if kd 1 = 1 then 2 else 1)) := by
      by_cases y : kd 1 = 1
      · rw [z_skr_t y, if_pos y, decide_eq_true ⟨w, y⟩]
      · rw [z_skr_f y, if_neg y, decide_eq_false (fun z => y z.2)]
    have B15 : E_b n kd pl wd (z_cx v) s15 (.inr (if kd 1 = 1 then 2 else 1)) (3 * (if kd 1 = 1 then 2 else 1) + 0) := by
      rw [e1] at b2
      rw [e15]
      exact (b2.pI Z nq _ _).mono (Nat.zero_le _)
    have I15 : ∀ k, k ≠ 134 → g_I s15 k (z_cx v).1 = 0 := fun k hk => by rw [e15, x_I_I, if_neg (fun q => hk q.1), ((b3.sm q2).1 k).1]; exact I11 k
    have h134 : g_I s15 134 (z_cx v).1 = z_g (decide (kd 0 = 0 ∧ kd 1 = 1)) := by rw [e15, x_I_I, if_pos ⟨rfl, rfl⟩, e1]
    have Q15 : E_qA (z_cx v) s15 (g_cnt v 24 * 64 + 24) (g_cnt v 26 * 64 + 26) := Q11.of (fun t => by rw [e15]; show _ ≤ g_cnt s14 t; rw [b3.1]; exact Nat.le_refl _) (fun k _ => by rw [e15]; show g_R s14 k _ = _; rw [b3.2.2.2.2.1]) ⟨by rw [e15]; show g_ln s14 _ = _; rw [b3.2.2.2.2.2.2.2.2.1], by rw [e15]; show g_ln s14 _ = _; rw [b3.2.2.2.2.2.2.2.2.1]⟩
    have c15 : g_cnt s15 = g_cnt s9 := by rw [e15]; show g_cnt s14 = _; rw [b3.1, a3.1]
    obtain ⟨u1, d1, d2, d3, d4, d5, d6⟩ := a_pts (vl := vl) Z H hwd hvl Q15 (d := 0) (by omega) B15 (I15 _ (by decide))
    have ew : z_w1 kd vl = z_lst kd 25 (z_par kd vl) 3 (if kd 1 = 1 then 2 else 1) := by unfold z_w1; rw [if_pos w]
    rw [← ew] at d2 d4 d5 d6
    obtain ⟨u', ww, f1, f2, f3, f4⟩ := a_187 (vl := vl) Z H hwd hvl Q15 (o26 s15 c15) (d := 0) (by omega) d5 d2 d3 d6 ⟨I15 _ (by decide), I15 _ (by decide)⟩ h134
    refine ⟨u', ww, by rw [st, d1, f1]; rfl, Z, f2, f3, fun hq => ?_⟩
    rw [← bq, ← c15]
    exact f4 hq
  · rw [z_skr_f w] at a2
    rw [z_skr_f w, if_pos (show z_g (false, (.inr 0 : z_P)).1 = 0 from rfl)] at st
    have ew : z_w1 kd vl = ([], .inr 0) := by unfold z_w1; rw [if_neg w]
    have c11 : g_cnt s11 = g_cnt s9 := a3.1
    obtain ⟨u', ww, f1, f2, f3, f4⟩ := a_187 (vl := vl) (l := []) (r := .inr 0) (bz := false) Z H hwd hvl Q11 (o26 s11 c11) (d := 0) (by omega) (Nat.zero_le _) a2 ⟨E_kp.re, E_ct.re, fun _ => rfl, fun _ _ => rfl, rfl⟩ (fun q _ => ⟨I11 _, ⟨rfl, rfl, rfl, rfl, rfl⟩, (fun m hm => by cases hm)⟩) ⟨I11 _, I11 _⟩ (I11 _)
    have e1 : z_rr kd vl = (z_w3 kd (z_w2 kd vl (.inr 0)).2).2 := by unfold z_rr; rw [ew]
    have e2 : z_qed kd vl = z_w4 kd (z_w3 kd (z_w2 kd vl (.inr 0)).2).2 := by unfold z_qed; rw [ew]
    have e3 : z_qry kd vl = (false, [], (z_w2 kd vl (.inr 0)).1, (z_w3 kd (z_w2 kd vl (.inr 0)).2).1) := by unfold z_qry; rw [ew, decide_eq_false (fun z => w z.1)]
    refine ⟨u', ww, by rw [st, f1, e2]; rfl, Z, by rw [e1]; exact f2, f3, fun hq => ?_⟩
    rw [← bq, ← c11, e3]
    exact f4 (by rw [← e2]; exact hq)
end
