/-! THE ENGINE READS ORDER BY, WHOLE -/
section
variable {n : Nat} {kd pl : Nat → Nat} {wd vl : Nat → Int64} {c : z_Cx} {A O : Nat} {u0 : g_St}
/-- a turn of the loop -/
theorem a_o11 (Z : E_cx c) (H : z_H n kd) (hwd : ∀ i, i < n → kd i = 36 → wd i ≠ 0) (hA : E_qA c u0 A O) {d : Nat} (hd : d ≤ 40) {r : z_P} {l : List Nat} {u : g_St} (hl : l.length ≤ 1) (hb : E_b n kd pl wd c u r (3 * z_pk r + d)) (hf : E_of c O u0 u) (h578 : g_R u0 578 2 = none) (hs : E_os pl wd c O u0 u l) (f : Nat) :
    ∃ s, f_Re_order_11 (f + 1) (some 2) 1 (Int32.ofNat l.length) u = (if 1 ≤ l.length then f_Re_order_11 f (some 2) 0 (Int32.ofNat (l.length + 1)) s else g_c (f_Re_accept (some 2) (some 1613) s) fun i t => if i = 0 then f_Re_order_11 f (some 2) 0 (Int32.ofNat (l.length + 1)) t else f_Re_order_11 f (some 2) 1 (Int32.ofNat (l.length + 1)) t) ∧ E_b n kd pl wd c s (z_ndr kd 36 (z_ndr kd 28 (z_ndr kd 36 r))) (3 * z_pk (z_ndr kd 36 (z_ndr kd 28 (z_ndr kd 36 r))) + d + z_sl (z_ndr kd 36 (z_ndr kd 28 (z_ndr kd 36 r))) 6) ∧ E_of c O u0 s ∧ z_pk r ≤ z_pk (z_ndr kd 36 (z_ndr kd 28 (z_ndr kd 36 r))) ∧ ∀ p q, r = .inr p → z_ndr kd 36 (z_ndr kd 28 (z_ndr kd 36 r)) = .inr q → E_os pl wd c O u0 s (l ++ [p]) := by
  obtain ⟨p1, p2, p3, p4, p5, p6, p7, p8, p9, p10, p11, -⟩ := a_pl H hb
  have stq : E_ps (g_setI u 386 2 (z_g true)) n (.inl (z_pk r)) := ⟨by rw [x_I_I, if_pos ⟨rfl, rfl⟩]; rfl, by rw [x_I_I, if_neg (fun q => by have := q.1; omega)]; exact p3, p4⟩
  have st0 : f_Re_order_11 (f + 1) (some 2) 1 (Int32.ofNat l.length) u = (g_gI u 386 (some 2) fun i1 => if i1 = 0 then g_gR u 130 (some 2) fun p2 => g_gI u 322 (some 2) fun i3 => g_aR u p2 i3 fun p4 => if p4 = some 2317 then f_Re_order_48 (f_Re_order_11 f) (some 2) (Int32.ofNat l.length) (some 2) 0 u else f_Re_order_48 (f_Re_order_11 f) (some 2) (Int32.ofNat l.length) (some 2) 1 u else f_Re_order_48 (f_Re_order_11 f) (some 2) (Int32.ofNat l.length) (some 2) 1 u) := by
    rw [f_Re_order_11, if_neg (show ¬ (2 : Int32) ≤ Int32.ofNat l.length from by rw [show (2 : Int32) = Int32.ofNat 2 from rfl, x_le (by omega) (by omega)]; omega), if_neg (by decide)]
  rw [st0]
  cases r with
  | inl q =>
    rw [x_gI, hb.2.2.1.1, if_neg (by decide)]
    obtain ⟨s, a1, a2, a3, a4, a5⟩ := a_o48 Z H hwd hA hd hl hb hf h578 hs (f_Re_order_11 f) (b := true) (r1 := .inl q) stq (fun _ y => by cases y) rfl
    exact ⟨s, a1, a2, a3, a4, fun p q y => by cases y⟩
  | inr q =>
    have e3 : g_I u 322 2 = Int32.ofNat q := p3
    have e4 : q ≤ n := p4
    have e11 : g_AR u 23 q = some (kd q * 64 + 13) := p11
    rw [x_gI, hb.2.2.1.1, if_pos rfl, x_gR, p9, x_gI, e3, x_aR (by omega) (by rw [p10]; omega), e11]
    by_cases w1 : kd q = 36
    · rw [if_pos (by rw [w1])]
      have eo : z_opp kd (.inr q) = z_ndr kd 36 (z_ndr kd 28 (z_ndr kd 36 (.inr q))) := z_opp_e (by omega) (by omega)
      obtain ⟨s, a1, a2, a3, a4, a5⟩ := a_o48 Z H hwd hA hd hl hb hf h578 hs (f_Re_order_11 f) (b := false) (r1 := .inr q) ⟨by rw [x_I_I, if_pos ⟨rfl, rfl⟩]; rfl, by rw [x_I_I, if_neg (fun q => by have := q.1; omega)]; exact e3, e4⟩ (fun p y => by cases y; exact ⟨rfl, w1⟩) rfl
      rw [eo] at a2 a4 a5
      exact ⟨s, a1, a2, a3, a4, a5⟩
    · rw [if_neg (fun y => w1 (by have := Option.some.inj y; omega))]
      obtain ⟨s, a1, a2, a3, a4, a5⟩ := a_o48 Z H hwd hA hd hl hb hf h578 hs (f_Re_order_11 f) (b := true) (r1 := .inl q) stq (fun _ y => by cases y) rfl
      have e0 : z_ndr kd 36 (.inr q) = .inl q := by unfold z_ndr; simp only []; rw [if_neg w1]
      rw [e0]
      exact ⟨s, a1, a2, a3, a4, fun p q _ y => by cases y⟩
theorem a_ord (Z : E_cx c) (H : z_H n kd) (hwd : ∀ i, i < n → kd i = 36 → wd i ≠ 0) {d q0 : Nat} (hd : d ≤ 40) {u : g_St} (hA : E_qA c u A O) (hb : E_b n kd pl wd c u (.inr (q0 + 1)) (3 * (q0 + 1) + d)) (h578 : g_R u 578 2 = none) (h326 : g_I u 326 c.1 = 0) : ∃ u', f_Re_order (some 2) u = some ((), u') ∧ E_b n kd pl wd c u' (z_ors kd q0).2 (3 * z_pk (z_ors kd q0).2 + d + z_sl (z_ors kd q0).2 6) ∧ E_of c O u u' ∧ q0 ≤ z_pk (z_ors kd q0).2 ∧ (z_ors kd q0).1.length ≤ 2 ∧ ∀ q, (z_ors kd q0).2 = .inr q → E_os pl wd c O u u' (z_ors kd q0).1 := by
  obtain ⟨u0, a1, a2, a3⟩ := a_ex Z H hb (k := 17) (by decide)
  have st : f_Re_order (some 2) u = f_Re_order_11 200000 (some 2) 1 0 u0 := by
    unfold f_Re_order
    rw [x_nn, show (1101 : Nat) = 17 * 64 + 13 from rfl, a1, x_c]
  have f00 : E_of c O u u := ⟨E_kp.re, E_ct.re, fun _ => rfl, fun _ _ => rfl, rfl, rfl, rfl⟩
  have f0 : E_of c O u u0 := f00.as Z a3
  have s00 : E_os pl wd c O u u [] := ⟨h326, rfl, (fun m hm => by cases hm)⟩
  have s0 : E_os pl wd c O u u0 [] := s00.as Z a3
  have pk : q0 + 1 ≤ z_pk (z_ndr kd 17 (.inr (q0 + 1))) := z_pk_nd (kd := kd) 17 (.inr (q0 + 1))
  unfold z_ors
  rw [st]
  cases hz : z_ndr kd 17 (.inr (q0 + 1)) with
  | inl q =>
    rw [hz] at a2 pk
    have hq : q0 + 1 ≤ q := pk
    rw [z_go_l]
    have B0 : E_b n kd pl wd c u0 (.inl q) (3 * z_pk (.inl q) + d) := a2.mono (by show _ ≤ 3 * q + d; omega)
    obtain ⟨s, b1, b2, b3, b4, b5⟩ := a_o11 Z H hwd hA hd (l := []) (by show 0 ≤ 1; omega) B0 f0 h578 s0 199999
    refine ⟨s, ?_, b2, b3, by show q0 ≤ q; omega, Nat.zero_le _, fun q w => by cases w⟩
    refine b1.trans ?_
    rw [if_neg (by show ¬ 1 ≤ 0; decide), pE_acceptS b2.2.2.1.1, x_c, if_pos rfl, f_Re_order_11, if_neg (by decide), if_pos rfl]
  | inr q =>
    obtain ⟨p', y1, -, y3⟩ := z_ndr_ok hz
    cases y1
    rw [hz] at a2
    rw [z_go_r]
    have key := a_loop (kd := kd) (fun f x i s => f_Re_order_11 f (some 2) x (Int32.ofNat i) s) (fun s => some ((), s)) (f_Re_accept (some 2) (some 1613)) 25 (z_oit kd) 1 (fun p l s => E_b n kd pl wd c s (.inr p) (3 * p + d) ∧ E_of c O u s ∧ q0 ≤ p ∧ E_os pl wd c O u s l) (fun r l s => E_b n kd pl wd c s r (3 * z_pk r + d + z_sl r 6) ∧ E_of c O u s ∧ q0 ≤ z_pk r ∧ ∀ q, r = .inr q → E_os pl wd c O u s l)
      (fun f i s => ?_) (fun r l s hJ => ?_) (fun p l u f hl hJ => ?_) 1 q [] u0 200000 rfl (by omega) ⟨a2.mono (by omega), f0, by omega, s0⟩
    · obtain ⟨u', b1, ⟨b2, b3, b4, b5⟩, b6⟩ := key
      exact ⟨u', b1, b2, b3, b4, b6, b5⟩
    · show f_Re_order_11 (f + 1) (some 2) 0 (Int32.ofNat i) s = _
      rw [f_Re_order_11]
      by_cases w : 2 ≤ Int32.ofNat i
      · rw [if_pos w]
      · rw [if_neg w, if_pos rfl]
    · obtain ⟨b1, b2, b3, b4⟩ := hJ
      obtain ⟨t, x1, x2, x3⟩ := a_ac Z H b1 (k := 25) (by decide)
      refine ⟨t, x1, fun w => ?_, fun q e1 e2 => ?_⟩
      · rw [z_skr_false w] at x2
        exact ⟨x2, b2.as Z x3, b3, fun q e => (b4 q e).as Z x3⟩
      · rw [e1] at x2 b3
        rw [z_skr_t e2] at x2
        have b3' : q0 ≤ q := b3
        exact ⟨x2.mono (by show 3 * q + d + 0 ≤ 3 * (q + 1) + d; omega), b2.as Z x3, by omega, (b4 q e1).as Z x3⟩
    · obtain ⟨b1, b2, b3, b4⟩ := hJ
      obtain ⟨s, a1, a2, a3, a4, a5⟩ := a_o11 Z H hwd hA hd hl b1 b2 h578 b4 f
      have a4' : p ≤ z_pk (z_ndr kd 36 (z_ndr kd 28 (z_ndr kd 36 (.inr p)))) := a4
      exact ⟨s, a1, a2, a3, Nat.le_trans b3 a4', fun q hq => a5 p q rfl hq⟩
end
