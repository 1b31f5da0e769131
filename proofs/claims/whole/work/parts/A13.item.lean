/-! THE ENGINE READS AN ITEM -/
def z_itp (kd : Nat → Nat) (r : z_P) : z_P := match r with
  | .inl q => .inl q
  | .inr p => (z_itr kd p).2
/-- an item stands at place m of the selection's arrays -/
def E_ir (pl : Nat → Nat) (wd : Nat → Int64) (u : g_St) (I G m i : Nat) (sel : Option Nat) (x : z_It) : Prop := i + x.2.length ≤ g_cnt u 11 ∧ ((x.1 = 0 ∧ g_AR u G m = none) ∨ (20 ≤ x.1 ∧ x.1 ≤ 23 ∧ g_AR u G m = some (x.1 * 64 + 13))) ∧ ((x.1 = 20 ∧ x.2 = []) ∨ (x.1 ≠ 20 ∧ 1 ≤ x.2.length ∧ g_AR u I m = some (i * 64 + 11) ∧ E_ex pl wd u i sel none x.2))
theorem E_ir.of {pl : Nat → Nat} {wd : Nat → Int64} {u v : g_St} {I G m i : Nat} {sel : Option Nat} {x : z_It} (h : E_ir pl wd u I G m i sel x) {X : List Nat} (k : E_kp X u v) (hX : ∀ a ∈ X, a % 64 ≠ 11) (h1 : g_AR v I m = g_AR u I m) (h2 : g_AR v G m = g_AR u G m) : E_ir pl wd v I G m i sel x := by
  obtain ⟨a1, a2, a3⟩ := h
  refine ⟨Nat.le_trans a1 (k.1 11), by rw [h2]; exact a2, ?_⟩
  rcases a3 with a3 | ⟨b1, b2, b3, b4⟩
  · exact Or.inl a3
  · exact Or.inr ⟨b1, b2, by rw [h1]; exact b3, b4.kp a1 k hX⟩
/-- what an item leaves of the selection S with its arrays I and G -/
def E_ik (S I G ic : Nat) (u v : g_St) : Prop := E_kp [S, I, G] u v ∧ E_ct [11] u v ∧ g_R v 514 2 = g_R u 514 2 ∧ g_R v 578 2 = g_R u 578 2 ∧ (∀ k, g_R v k S = g_R u k S) ∧ (∀ k, k ≠ 264 → k ≠ 328 → k ≠ 712 → g_I v k S = g_I u k S) ∧ (g_ln v I = g_ln u I ∧ g_ln v G = g_ln u G) ∧ ∀ m, m ≠ ic → g_AR v I m = g_AR u I m ∧ g_AR v G m = g_AR u G m
/-- the selection that is read -/
def E_sS (c : z_Cx) (u : g_St) (S I G : Nat) : Prop := S % 64 = 8 ∧ I % 64 = 26 ∧ G % 64 = 23 ∧ (E_nw c S ∧ E_nw c I ∧ E_nw c G) ∧ (g_al u S ∧ g_al u I ∧ g_al u G) ∧ g_R u 136 S = some I ∧ g_R u 200 S = some G ∧ g_ln u I = 4 ∧ g_ln u G = 4
theorem E_sS.of {c : z_Cx} {u v : g_St} {S I G : Nat} (h : E_sS c u S I G) (hc : ∀ t, g_cnt u t ≤ g_cnt v t) (h1 : ∀ k, g_R v k S = g_R u k S) (h2 : g_ln v I = g_ln u I) (h3 : g_ln v G = g_ln u G) : E_sS c v S I G := by
  obtain ⟨a1, a2, a3, a4, a5, a6, a7, a8, a9⟩ := h
  exact ⟨a1, a2, a3, a4, ⟨E_alm hc a5.1, E_alm hc a5.2.1, E_alm hc a5.2.2⟩, by rw [h1]; exact a6, by rw [h1]; exact a7, by rw [h2]; exact a8, by rw [h3]; exact a9⟩
section
variable {n : Nat} {kd pl : Nat → Nat} {wd : Nat → Int64} {c : z_Cx}
theorem a_176 (Z : E_cx c) {u : g_St} {r : z_P} {w S I G ic : Nat} {gk : Option Nat} (h : E_b n kd pl wd c u r w) (hS : E_sS c u S I G) (h514 : g_R u 514 2 = some S) (hic : ic < 4) : ∃ u', f_Re_item_176 (some 2) (Int32.ofNat ic) gk u = some ((), u') ∧ E_b n kd pl wd c u' r w ∧ u' = g_setI (g_setAR u G ic gk) 328 S (g_I u 328 S + 1) := by
  obtain ⟨a1, a2, a3, ⟨a4, a4', a4''⟩, a5, a6, a7, a8, a9⟩ := hS
  refine ⟨_, ?_, (h.sR Z a4'' ic gk).pI Z a4 328 _, rfl⟩
  unfold f_Re_item_176
  rw [x_gR, h514, x_gR, a7, x_sR (by omega) (by rw [a9]; exact hic), x_gR, show g_R (g_setAR u G ic gk) 514 2 = some S from h514, x_gI, x_pI]
  rfl
theorem a_it (Z : E_cx c) (H : z_H n kd) (hwd : ∀ i, i < n → kd i = 36 → wd i ≠ 0) {u : g_St} {r : z_P} {d S I G ic : Nat} (h : E_b n kd pl wd c u r (3 * z_pk r + d)) (hd : d ≤ 39) (hS : E_sS c u S I G) (h514 : g_R u 514 2 = some S) (h578 : g_R u 578 2 = none) (hic : ic < 4) (h264 : g_I u 264 S = Int32.ofNat ic) (hI : g_AR u I ic = none) (hG : g_AR u G ic = none) {rk : Bool} (h712 : g_I u 712 S = z_g rk) :
    ∃ u', f_Re_item (some 2) u = some ((), u') ∧ E_b n kd pl wd c u' (z_itp kd r) (3 * z_pk (z_itp kd r) + d + z_sl (z_itp kd r) 6) ∧ E_ik S I G ic u u' ∧ z_pk r ≤ z_pk (z_itp kd r) ∧ g_I u' 264 S = Int32.ofNat (ic + 1) ∧ ∀ p q, r = .inr p → z_itp kd r = .inr q → g_cnt u' 11 = g_cnt u 11 + (z_itr kd p).1.2.length ∧ E_ir pl wd u' I G ic (g_cnt u 11) (some S) (z_itr kd p).1 ∧ g_I u' 328 S = (if (z_itr kd p).1.1 = 0 then g_I u 328 S else g_I u 328 S + 1) ∧ g_I u' 712 S = z_g (rk || (decide ((z_itr kd p).1.1 = 0) && decide (1 < (z_itr kd p).1.2.length))) := by
  have hS0 := hS
  obtain ⟨a1, a2, a3, ⟨a4, a4', a4''⟩, ⟨a5, a5', a5''⟩, a6, a7, a8, a9⟩ := hS
  have S2 : S ≠ 2 := a4.ne2
  have I2 : I ≠ 2 := a4'.ne2
  have G2 : G ≠ 2 := a4''.ne2
  have okS : ∀ v : g_St, E_ok [S, I, G] v S := fun v => ⟨S2, Or.inl (by simp)⟩
  have okI : ∀ v : g_St, E_ok [S, I, G] v I := fun v => ⟨I2, Or.inl (by simp)⟩
  have okG : ∀ v : g_St, E_ok [S, I, G] v G := fun v => ⟨G2, Or.inl (by simp)⟩
  have kS : S % 64 ≠ 12 ∧ S % 64 ≠ 30 ∧ S % 64 ≠ 2 := by rw [a1]; decide
  have kI : I % 64 ≠ 12 ∧ I % 64 ≠ 30 ∧ I % 64 ≠ 2 := by rw [a2]; decide
  have kG : G % 64 ≠ 12 ∧ G % 64 ≠ 30 ∧ G % 64 ≠ 2 := by rw [a3]; decide
  obtain ⟨p1, p2, p3, p4, p5, p6, p7, p8, p9, p10, p11, -⟩ := a_pl H h
  obtain ⟨s8, e8⟩ : ∃ s8, s8 = g_setI u 264 S (Int32.ofNat (ic + 1)) := ⟨_, rfl⟩
  have B8 : E_b n kd pl wd c s8 r (3 * z_pk r + d) := by rw [e8]; exact h.pI Z a4 _ _
  have K8 : E_kp [S, I, G] u s8 := by rw [e8]; exact E_kp.re.pI (okS u) _ _
  have i8 : ∀ k, g_I s8 k S = if k = 264 then Int32.ofNat (ic + 1) else g_I u k S := fun k => by
    rw [e8, x_I_I]
    by_cases y : k = 264
    · rw [if_pos ⟨y, rfl⟩, if_pos y]
    · rw [if_neg (fun q => y q.1), if_neg y]
  have S8 : E_sS c s8 S I G := by rw [e8]; exact hS0
  have R8 : g_R s8 = g_R u := by rw [e8]; rfl
  have AR8 : g_AR s8 = g_AR u := by rw [e8]; rfl
  have c8 : g_cnt s8 = g_cnt u := by rw [e8]; rfl
  have ln8 : g_ln s8 = g_ln u := by rw [e8]; rfl
  have T : ¬ z_g true = 0 := by decide
  have F : z_g false = 0 := rfl
  -- frames: from s8 by steps that keep S, I, G
  have frm : ∀ s : g_St, E_kp [] s8 s → E_ct [11] s8 s → g_R s 514 2 = g_R u 514 2 → g_R s 578 2 = g_R u 578 2 → E_ik S I G ic u s ∧ E_sS c s S I G ∧ E_sm s8 s S ∧ E_sm s8 s I ∧ E_sm s8 s G := by
    intro s q1 q2 q3 q4
    have sS : E_sm s8 s S := q1.at (by show _ < g_cnt s8 _; rw [c8]; exact a5) kS (by simp)
    have sI : E_sm s8 s I := q1.at (by show _ < g_cnt s8 _; rw [c8]; exact a5') kI (by simp)
    have sG : E_sm s8 s G := q1.at (by show _ < g_cnt s8 _; rw [c8]; exact a5'') kG (by simp)
    refine ⟨⟨K8.trans q1 (fun a ha => by cases ha), fun t x y => by rw [q2 t x y, c8], q3, q4, fun k => by rw [(sS.1 k).2.2, R8], fun k x1 x2 x3 => by rw [(sS.1 k).1, i8, if_neg x1], ⟨by rw [sI.2.2.2.2, ln8], by rw [sG.2.2.2.2, ln8]⟩, fun m hm => ⟨by rw [sI.2.2.2.1, AR8], by rw [sG.2.2.2.1, AR8]⟩⟩, S8.of q1.1 (fun k => (sS.1 k).2.2) sI.2.2.2.2 sG.2.2.2.2, sS, sI, sG⟩
  obtain ⟨s10, b1, b2, b3⟩ := a_ac Z H B8 (k := 20) (by decide)
  have st : f_Re_item (some 2) u = if z_g (z_skr kd 20 r).1 = 0 then g_c (g_nn (some 2) (f_Re_accept (some 2) (some 1357) s10)) (fun i11 s12 => if i11 = 0 then g_c (g_nn (some 2) (f_Re_accept (some 2) (some 1421) s12)) (fun i13 s14 => if i13 = 0 then g_c (g_nn (some 2) (f_Re_accept (some 2) (some 1485) s14)) (fun i15 s16 => if i15 = 0 then g_gR s16 514 (some 2) fun p17 => g_gR s16 136 p17 fun p18 => g_c (g_nn (some 2) (f_Re_expression (some 2) s16)) fun p19 s20 => g_sR s20 p18 (Int32.ofNat ic) p19 fun s21 => g_gR s21 514 (some 2) fun p22 => g_gR s21 514 (some 2) fun p23 => g_gI s21 712 p23 fun i24 => if i24 = 0 then g_gR s21 514 (some 2) fun p26 => g_gR s21 136 p26 fun p27 => g_aR s21 p27 (Int32.ofNat ic) fun p28 => g_gR s21 651 p28 fun p29 => if p29 = none then g_pZ s21 712 p22 0 fun s30 => some ((), s30) else g_pZ s21 712 p22 1 fun s31 => some ((), s31) else g_pZ s21 712 p22 1 fun s25 => some ((), s25) else f_Re_item_95 (some 2) (Int32.ofNat ic) (some (kd (z_pk r) * 64 + 13)) s16) else f_Re_item_95 (some 2) (Int32.ofNat ic) (some (kd (z_pk r) * 64 + 13)) s14) else f_Re_item_95 (some 2) (Int32.ofNat ic) (some (kd (z_pk r) * 64 + 13)) s12) else g_c (g_nn (some 2) (f_Re_expect (some 2) (some 1677) s10)) fun _ s33 => g_c (g_nn (some 2) (f_Re_expect (some 2) (some 2189) s33)) fun _ s35 => g_c (g_nn (some 2) (f_Re_expect (some 2) (some 1741) s35)) fun _ s37 => f_Re_item_176 (some 2) (Int32.ofNat ic) (some (kd (z_pk r) * 64 + 13)) s37 := by
    unfold f_Re_item
    rw [x_gR, h514, x_gI, h264, x_gR, p9, x_gI, p3, x_aR (by omega) (by rw [p10]; omega), p11, x_gR, h514, x_gI, h264, x_p1, x_pI, ← e8, x_nn, show (1293 : Nat) = 20 * 64 + 13 from rfl, b1, x_c]
  -- SUM, MIN, MAX
  have gat : ∀ (s : g_St) (p : Nat), r = .inr p → 21 ≤ kd p ∧ kd p ≤ 23 → E_as s8 s → E_b n kd pl wd c s (.inr (p + 1)) (3 * p + d) → f_Re_item (some 2) u = f_Re_item_95 (some 2) (Int32.ofNat ic) (some (kd (z_pk r) * 64 + 13)) s →
      ∃ u', f_Re_item (some 2) u = some ((), u') ∧ E_b n kd pl wd c u' (z_itp kd r) (3 * z_pk (z_itp kd r) + d + z_sl (z_itp kd r) 6) ∧ E_ik S I G ic u u' ∧ z_pk r ≤ z_pk (z_itp kd r) ∧ g_I u' 264 S = Int32.ofNat (ic + 1) ∧ ∀ p q, r = .inr p → z_itp kd r = .inr q → g_cnt u' 11 = g_cnt u 11 + (z_itr kd p).1.2.length ∧ E_ir pl wd u' I G ic (g_cnt u 11) (some S) (z_itr kd p).1 ∧ g_I u' 328 S = (if (z_itr kd p).1.1 = 0 then g_I u 328 S else g_I u 328 S + 1) ∧ g_I u' 712 S = z_g (rk || (decide ((z_itr kd p).1.1 = 0) && decide (1 < (z_itr kd p).1.2.length))) := by
    intro s p hr hkp hA hB hst
    have ez : z_itr kd p = ((kd p, (z_exr kd (z_ndr kd 26 (.inr (p + 1)))).1), z_ndr kd 27 (z_exr kd (z_ndr kd 26 (.inr (p + 1)))).2) := by unfold z_itr; rw [if_neg (by omega), if_pos hkp]
    have ep : z_itp kd r = z_ndr kd 27 (z_exr kd (z_ndr kd 26 (.inr (p + 1)))).2 := by rw [hr]; show (z_itr kd p).2 = _; rw [ez]
    have epk : z_pk r = p := by rw [hr]; rfl
    obtain ⟨s2, c1, c2, c3⟩ := a_ex Z H hB (k := 26) (by decide)
    have pk1 : p + 1 ≤ z_pk (z_ndr kd 26 (.inr (p + 1))) := z_pk_nd (kd := kd) 26 (.inr (p + 1))
    have B2 : E_b n kd pl wd c s2 (z_ndr kd 26 (.inr (p + 1))) (3 * z_pk (z_ndr kd 26 (.inr (p + 1))) + d) := c2.mono (by omega)
    have A2 := hA.trans c3
    obtain ⟨s6, d1, d2, d3, d4, d5, d6, d7, d8, d9⟩ := a_exp Z H hwd B2 (by omega)
    have q6 : E_kp [] s8 s6 := (A2.kp []).trans d3 (fun a ha => by cases ha)
    have t6 : E_ct [11] s8 s6 := fun t x y => by rw [d4 t x y, A2.1]
    have r6 : ∀ k, g_R s2 k 2 = g_R u k 2 := fun k => by rw [A2.2.2.2.2.1, R8]
    obtain ⟨k1, k2, k3, k4, k5⟩ := frm s6 q6 t6 (by rw [d5, r6]) (by rw [d6, r6])
    have R2S : ∀ k, g_R s2 k S = g_R u k S := fun k => by rw [A2.2.2.2.2.1, R8]
    have B7 := d2.sR Z a4' ic (some (g_cnt s2 11 * 64 + 11))
    obtain ⟨s9, g1, g2, g3⟩ := a_ex Z H B7 (k := 27) (by decide)
    have S9 : E_sS c s9 S I G := k2.of (fun t => by rw [g3.1]; exact Nat.le_refl _) (fun k => by rw [g3.2.2.2.2.1]; rfl) (by rw [g3.2.2.2.2.2.2.2.2.1]; rfl) (by rw [g3.2.2.2.2.2.2.2.2.1]; rfl)
    obtain ⟨u', m1, m2, m3⟩ := a_176 (gk := some (kd (z_pk r) * 64 + 13)) Z g2 S9 (by rw [g3.2.2.2.2.1]; show g_R s6 514 2 = _; rw [k1.2.2.1]; exact h514) hic
    have stu : f_Re_item (some 2) u = some ((), u') := by
      rw [hst]
      unfold f_Re_item_95
      rw [x_nn, show (1677 : Nat) = 26 * 64 + 13 from rfl, c1, x_c, x_gR, r6, h514, x_gR, R2S, a6, x_nn, d1, x_c, x_sR (by omega) (by rw [k2.2.2.2.2.2.2.2.1]; exact hic), x_nn, show (1741 : Nat) = 27 * 64 + 13 from rfl, g1, x_c]
      exact m1
    have pk27 := z_pk_nd (kd := kd) 27 (z_exr kd (z_ndr kd 26 (.inr (p + 1)))).2
    have AI : ∀ m, g_AR u' I m = if m = ic then some (g_cnt s2 11 * 64 + 11) else g_AR s6 I m := fun m => by
      rw [m3]
      show g_AR (g_setAR s9 G ic (some (kd (z_pk r) * 64 + 13))) I m = _
      rw [x_AR_AR, if_neg (fun q => by have := q.1; omega), g3.2.2.2.2.2.2.2.1, x_AR_AR]
      by_cases y : m = ic
      · rw [if_pos ⟨rfl, y⟩, if_pos y]
      · rw [if_neg (fun q => y q.2), if_neg y]
    have AG : ∀ m, g_AR u' G m = if m = ic then some (kd p * 64 + 13) else g_AR s6 G m := fun m => by
      rw [m3]
      show g_AR (g_setAR s9 G ic (some (kd (z_pk r) * 64 + 13))) G m = _
      rw [x_AR_AR, epk]
      by_cases y : m = ic
      · rw [if_pos ⟨rfl, y⟩, if_pos y]
      · rw [if_neg (fun q => y q.2), if_neg y, g3.2.2.2.2.2.2.2.1, x_AR_AR, if_neg (fun q => by have := q.1; omega)]
    have sg9 := g3.sm S2
    have IS : ∀ k, g_I u' k S = if k = 328 then g_I s6 328 S + 1 else g_I s6 k S := fun k => by
      have y0 : ∀ k, g_I s9 k S = g_I s6 k S := fun k => (sg9.1 k).1
      rw [m3, x_I_I]
      by_cases y : k = 328
      · rw [if_pos ⟨y, rfl⟩, if_pos y, y0]
      · rw [if_neg (fun q => y q.1), if_neg y]
        exact y0 k
    have K9 : E_kp [S, I, G] s6 u' := by
      rw [m3]
      exact (((E_kp.re.sR (okI s6) ic (some (g_cnt s2 11 * 64 + 11))).trans (g3.kp [S, I, G]) (fun a ha => Or.inl ha)).sR (okG s6) _ _).pI (okS s6) _ _
    have cu : ∀ t, g_cnt u' t = g_cnt s6 t := fun t => by
      rw [m3]
      show g_cnt s9 t = _
      rw [g3.1]; rfl
    have Ru : ∀ k a, g_R u' k a = g_R s6 k a := fun k a => by
      rw [m3]
      show g_R s9 k a = _
      rw [g3.2.2.2.2.1]; rfl
    have lnu : ∀ a, g_ln u' a = g_ln s6 a := fun a => by
      rw [m3]
      show g_ln s9 a = _
      rw [g3.2.2.2.2.2.2.2.2.1]; rfl
    refine ⟨u', stu, ?_, ⟨k1.1.trans K9 (fun a ha => Or.inl ha), fun t x y => by rw [cu]; exact k1.2.1 t x y, by rw [Ru]; exact k1.2.2.1, by rw [Ru]; exact k1.2.2.2.1, fun k => by rw [Ru]; exact k1.2.2.2.2.1 k, fun k x1 x2 x3 => by rw [IS, if_neg x2]; exact k1.2.2.2.2.2.1 k x1 x2 x3, ⟨by rw [lnu]; exact k1.2.2.2.2.2.2.1.1, by rw [lnu]; exact k1.2.2.2.2.2.2.1.2⟩, fun m hm => ⟨by rw [AI, if_neg hm]; exact (k1.2.2.2.2.2.2.2 m hm).1, by rw [AG, if_neg hm]; exact (k1.2.2.2.2.2.2.2 m hm).2⟩⟩, ?_, ?_, fun p' q e1 e2 => ?_⟩
    · rw [ep]
      refine m2.mono ?_
      cases hh : (z_exr kd (z_ndr kd 26 (.inr (p + 1)))).2 with
      | inl y => show 3 * y + d + 6 ≤ 3 * y + d + 6; exact Nat.le_refl _
      | inr y =>
        have : y ≤ z_pk (z_ndr kd 27 (.inr y)) := z_pk_nd (kd := kd) 27 (.inr y)
        show 3 * y + d + 0 ≤ _
        omega
    · rw [ep, epk]; omega
    · rw [IS, if_neg (by decide), (k3.1 264).1, i8, if_pos rfl]
    · rw [hr] at e1
      cases e1
      rw [ep] at e2
      obtain ⟨y, z1, -, -⟩ := z_ndr_ok e2
      obtain ⟨x1, x2, x3⟩ := d9 y z1
      have c2' : g_cnt s2 11 = g_cnt u 11 := by rw [A2.1, c8]
      rw [r6, r6, h514, h578, c2'] at x1
      rw [c2'] at x2
      rw [ez]
      refine ⟨by rw [cu]; exact x2, ⟨by rw [cu, x2]; exact Nat.le_refl _, Or.inr ⟨by show 20 ≤ kd p; omega, hkp.2, by rw [AG, if_pos rfl]⟩, Or.inr ⟨by show kd p ≠ 20; omega, x3, by rw [AI, if_pos rfl, c2'], x1.kp (by rw [x2]; exact Nat.le_refl _) K9 (fun a ha => ?_)⟩⟩, ?_, ?_⟩
      · simp only [List.mem_cons, List.not_mem_nil, or_false] at ha
        omega
      · rw [IS, if_pos rfl, (k3.1 328).1, i8, if_neg (by decide), if_neg (show ¬ kd p = 0 by omega)]
      · rw [IS, if_neg (by decide), (k3.1 712).1, i8, if_neg (by decide), h712, show decide (((kd p, (z_exr kd (z_ndr kd 26 (.inr (p + 1)))).1) : z_It).1 = 0) = false from decide_eq_false (by show ¬ kd p = 0; omega), Bool.false_and, Bool.or_false]
  rcases z_skr_c 20 r with ⟨w1, p, f1, f2, f3⟩ | ⟨w1, f1, f2⟩
  · -- COUNT
    rw [w1, if_neg T] at st
    rw [f3] at b2
    have epk : z_pk r = p := by rw [f1]; rfl
    have ez : z_itr kd p = ((20, []), z_ndr kd 27 (z_ndr kd 34 (z_ndr kd 26 (.inr (p + 1))))) := by unfold z_itr; rw [if_pos f2]
    have ep : z_itp kd r = z_ndr kd 27 (z_ndr kd 34 (z_ndr kd 26 (.inr (p + 1)))) := by rw [f1]; show (z_itr kd p).2 = _; rw [ez]
    obtain ⟨s33, c1, c2, c3⟩ := a_ex Z H b2 (k := 26) (by decide)
    obtain ⟨s35, d1, d2, d3⟩ := a_ex Z H c2 (k := 34) (by decide)
    obtain ⟨s37, g1, g2, g3⟩ := a_ex Z H d2 (k := 27) (by decide)
    have A := ((b3.trans c3).trans d3).trans g3
    obtain ⟨k1, k2, k3, k4, k5⟩ := frm s37 (A.kp []) (E_ct.as A) (by rw [A.2.2.2.2.1, R8]) (by rw [A.2.2.2.2.1, R8])
    obtain ⟨u', m1, m2, m3⟩ := a_176 (gk := some (kd (z_pk r) * 64 + 13)) Z g2 k2 (by rw [k1.2.2.1]; exact h514) hic
    rw [x_nn, show (1677 : Nat) = 26 * 64 + 13 from rfl, c1, x_c, x_nn, show (2189 : Nat) = 34 * 64 + 13 from rfl, d1, x_c, x_nn, show (1741 : Nat) = 27 * 64 + 13 from rfl, g1, x_c, m1] at st
    have pk1 : p + 1 ≤ z_pk (z_ndr kd 27 (z_ndr kd 34 (z_ndr kd 26 (.inr (p + 1))))) := Nat.le_trans (z_pk_nd (kd := kd) 26 (.inr (p + 1))) (Nat.le_trans (z_pk_nd _ _) (z_pk_nd _ _))
    have AI : ∀ m, g_AR u' I m = g_AR s37 I m := fun m => by
      rw [m3]
      show g_AR (g_setAR s37 G ic (some (kd (z_pk r) * 64 + 13))) I m = _
      rw [x_AR_AR, if_neg (fun q => by have := q.1; omega)]
    have AG : ∀ m, g_AR u' G m = if m = ic then some (kd p * 64 + 13) else g_AR s37 G m := fun m => by
      rw [m3]
      show g_AR (g_setAR s37 G ic (some (kd (z_pk r) * 64 + 13))) G m = _
      rw [x_AR_AR, epk]
      by_cases y : m = ic
      · rw [if_pos ⟨rfl, y⟩, if_pos y]
      · rw [if_neg (fun q => y q.2), if_neg y]
    have IS : ∀ k, g_I u' k S = if k = 328 then g_I s37 328 S + 1 else g_I s37 k S := fun k => by
      rw [m3, x_I_I]
      by_cases y : k = 328
      · rw [if_pos ⟨y, rfl⟩, if_pos y]
      · rw [if_neg (fun q => y q.1), if_neg y]; rfl
    have K9 : E_kp [S, I, G] s37 u' := by rw [m3]; exact (E_kp.re.sR (okG s37) _ _).pI (okS s37) _ _
    have cu : g_cnt u' = g_cnt s37 := by rw [m3]; rfl
    have Ru : g_R u' = g_R s37 := by rw [m3]; rfl
    have lnu : g_ln u' = g_ln s37 := by rw [m3]; rfl
    refine ⟨u', st, ?_, ⟨k1.1.trans K9 (fun a ha => Or.inl ha), fun t x y => by rw [cu]; exact k1.2.1 t x y, by rw [Ru]; exact k1.2.2.1, by rw [Ru]; exact k1.2.2.2.1, fun k => by rw [Ru]; exact k1.2.2.2.2.1 k, fun k x1 x2 x3 => by rw [IS, if_neg x2]; exact k1.2.2.2.2.2.1 k x1 x2 x3, ⟨by rw [lnu]; exact k1.2.2.2.2.2.2.1.1, by rw [lnu]; exact k1.2.2.2.2.2.2.1.2⟩, fun m hm => ⟨by rw [AI]; exact (k1.2.2.2.2.2.2.2 m hm).1, by rw [AG, if_neg hm]; exact (k1.2.2.2.2.2.2.2 m hm).2⟩⟩, ?_, ?_, fun p' q e1 e2 => ?_⟩
    · rw [ep]
      refine m2.mono ?_
      rw [epk]
      omega
    · rw [ep, epk]; omega
    · rw [IS, if_neg (by decide), (k3.1 264).1, i8, if_pos rfl]
    · rw [f1] at e1
      cases e1
      rw [ez]
      have cA : g_cnt u' 11 = g_cnt u 11 := by rw [cu, A.1, c8]
      refine ⟨cA, ⟨by rw [cA]; exact Nat.le_refl _, Or.inr ⟨show 20 ≤ 20 by decide, show 20 ≤ 23 by decide, by rw [AG, if_pos rfl, f2]⟩, Or.inl ⟨rfl, rfl⟩⟩, ?_, ?_⟩
      · rw [IS, if_pos rfl, (k3.1 328).1, i8, if_neg (by decide), if_neg (show ¬ (20 : Nat) = 0 by decide)]
      · rw [IS, if_neg (by decide), (k3.1 712).1, i8, if_neg (by decide), h712]
        show z_g rk = z_g (rk || (decide (20 = 0) && _))
        rw [show decide (20 = 0) = false from rfl, Bool.false_and, Bool.or_false]
  · rw [w1, if_pos F] at st
    rw [f1] at b2
    obtain ⟨s12, c1, c2, c3⟩ := a_ac Z H b2 (k := 21) (by decide)
    rw [x_nn, show (1357 : Nat) = 21 * 64 + 13 from rfl, c1, x_c] at st
    rcases z_skr_c 21 r with ⟨w2, p, g1, g2, g3⟩ | ⟨w2, g1, g2⟩
    · rw [w2, if_neg T] at st
      rw [g3] at c2
      exact gat s12 p g1 (by omega) (b3.trans c3) (by rw [show 3 * p = 3 * z_pk r by rw [g1]; rfl]; exact c2) st
    · rw [w2, if_pos F] at st
      rw [g1] at c2
      obtain ⟨s14, d1, d2, d3⟩ := a_ac Z H c2 (k := 22) (by decide)
      rw [x_nn, show (1421 : Nat) = 22 * 64 + 13 from rfl, d1, x_c] at st
      rcases z_skr_c 22 r with ⟨w3, p, k1, k2, k3⟩ | ⟨w3, k1, k2⟩
      · rw [w3, if_neg T] at st
        rw [k3] at d2
        exact gat s14 p k1 (by omega) ((b3.trans c3).trans d3) (by rw [show 3 * p = 3 * z_pk r by rw [k1]; rfl]; exact d2) st
      · rw [w3, if_pos F] at st
        rw [k1] at d2
        obtain ⟨s16, l1, l2, l3⟩ := a_ac Z H d2 (k := 23) (by decide)
        rw [x_nn, show (1485 : Nat) = 23 * 64 + 13 from rfl, l1, x_c] at st
        rcases z_skr_c 23 r with ⟨w4, p, m1, m2, m3⟩ | ⟨w4, m1, m2⟩
        · rw [w4, if_neg T] at st
          rw [m3] at l2
          exact gat s16 p m1 (by omega) (((b3.trans c3).trans d3).trans l3) (by rw [show 3 * p = 3 * z_pk r by rw [m1]; rfl]; exact l2) st
        · -- a plain item
          rw [w4, if_pos F] at st
          rw [m1] at l2
          have A := ((b3.trans c3).trans d3).trans l3
          obtain ⟨s20, x1, x2, x3, x4, x5, x6, x7, x8, x9⟩ := a_exp Z H hwd l2 (by omega)
          have q6 : E_kp [] s8 s20 := (A.kp []).trans x3 (fun a ha => by cases ha)
          have t6 : E_ct [11] s8 s20 := fun t x y => by rw [x4 t x y, A.1]
          have r6 : ∀ k a, g_R s16 k a = g_R u k a := fun k a => by rw [A.2.2.2.2.1, R8]
          obtain ⟨y1, y2, y3, y4, y5⟩ := frm s20 q6 t6 (by rw [x5, r6]) (by rw [x6, r6])
          have ez : z_itp kd r = (z_exr kd r).2 := by
            cases hr : r with
            | inl q => rfl
            | inr p =>
              show (z_itr kd p).2 = _
              unfold z_itr
              rw [if_neg (f2 p hr), if_neg (by have := g2 p hr; have := k2 p hr; have := m2 p hr; omega)]
          have c16 : g_cnt s16 11 = g_cnt u 11 := by rw [A.1, c8]
          rw [c16] at x1 x8 x9
          rw [r6, r6, h514, h578] at x9
          obtain ⟨s21, e21⟩ : ∃ s21, s21 = g_setAR s20 I ic (some (g_cnt u 11 * 64 + 11)) := ⟨_, rfl⟩
          have B21 : E_b n kd pl wd c s21 (z_exr kd r).2 (3 * z_pk (z_exr kd r).2 + d + z_sl (z_exr kd r).2 6) := by rw [e21]; exact x2.sR Z a4' _ _
          have r21 : g_R s21 = g_R s20 := by rw [e21]; rfl
          have h21 : g_R s21 514 2 = some S := by rw [r21, y1.2.2.1]; exact h514
          have j21 : g_I s21 712 S = z_g rk := by
            rw [e21]
            show g_I s20 712 S = _
            rw [(y3.1 712).1, i8, if_neg (by decide)]; exact h712
          have ar21 : g_AR s21 I ic = some (g_cnt u 11 * 64 + 11) := by rw [e21, x_AR_AR, if_pos ⟨rfl, rfl⟩]
          have st2 : f_Re_item (some 2) u = some ((), g_setI s21 712 S (z_g (rk || decide (g_R s20 651 (g_cnt u 11 * 64 + 11) ≠ none)))) := by
            rw [st, x_gR, r6, h514, x_gR, r6, a6, x_nn, x1, x_c, x_sR (by omega) (by rw [y2.2.2.2.2.2.2.2.1]; exact hic), ← e21, x_gR, h21, x_gR, h21, x_gI, j21]
            cases rk with
            | true =>
              rw [if_neg T, show (1 : Int32) = z_g true from rfl, x_pZ]
              rfl
            | false =>
              rw [if_pos F, x_gR, h21, x_gR, show g_R s21 136 S = some I from (by rw [r21]; exact y2.2.2.2.2.2.1), x_aR (by omega) (by rw [e21]; show ic < g_ln s20 I; rw [y2.2.2.2.2.2.2.2.1]; exact hic), ar21, x_gR, r21]
              by_cases y : g_R s20 651 (g_cnt u 11 * 64 + 11) = none
              · rw [if_pos y, show (0 : Int32) = z_g false from rfl, x_pZ, show decide (g_R s20 651 (g_cnt u 11 * 64 + 11) ≠ none) = false from decide_eq_false (fun q => q y)]
                rfl
              · rw [if_neg y, show (1 : Int32) = z_g true from rfl, x_pZ, show decide (g_R s20 651 (g_cnt u 11 * 64 + 11) ≠ none) = true from decide_eq_true y]
                rfl
          obtain ⟨u', eu⟩ : ∃ u', u' = g_setI s21 712 S (z_g (rk || decide (g_R s20 651 (g_cnt u 11 * 64 + 11) ≠ none))) := ⟨_, rfl⟩
          rw [← eu] at st2
          have AI : ∀ m, g_AR u' I m = if m = ic then some (g_cnt u 11 * 64 + 11) else g_AR s20 I m := fun m => by
            rw [eu, e21]
            show g_AR (g_setAR s20 I ic _) I m = _
            rw [x_AR_AR]
            by_cases y : m = ic
            · rw [if_pos ⟨rfl, y⟩, if_pos y]
            · rw [if_neg (fun q => y q.2), if_neg y]
          have AG : ∀ m, g_AR u' G m = g_AR s20 G m := fun m => by
            rw [eu, e21]
            show g_AR (g_setAR s20 I ic _) G m = _
            rw [x_AR_AR, if_neg (fun q => by have := q.1; omega)]
          have IS : ∀ k, k ≠ 712 → g_I u' k S = g_I s20 k S := fun k hk => by
            rw [eu, x_I_I, if_neg (fun q => hk q.1), e21]; rfl
          have K9 : E_kp [S, I, G] s20 u' := by rw [eu, e21]; exact (E_kp.re.sR (okI s20) _ _).pI (okS s20) _ _
          have cu : g_cnt u' = g_cnt s20 := by rw [eu, e21]; rfl
          have Ru : g_R u' = g_R s20 := by rw [eu, e21]; rfl
          have lnu : g_ln u' = g_ln s20 := by rw [eu, e21]; rfl
          refine ⟨u', st2, ?_, ⟨y1.1.trans K9 (fun a ha => Or.inl ha), fun t x y => by rw [cu]; exact y1.2.1 t x y, by rw [Ru]; exact y1.2.2.1, by rw [Ru]; exact y1.2.2.2.1, fun k => by rw [Ru]; exact y1.2.2.2.2.1 k, fun k z1 z2 z3 => by rw [IS k z3]; exact y1.2.2.2.2.2.1 k z1 z2 z3, ⟨by rw [lnu]; exact y1.2.2.2.2.2.2.1.1, by rw [lnu]; exact y1.2.2.2.2.2.2.1.2⟩, fun m hm => ⟨by rw [AI, if_neg hm]; exact (y1.2.2.2.2.2.2.2 m hm).1, by rw [AG]; exact (y1.2.2.2.2.2.2.2 m hm).2⟩⟩, ?_, ?_, fun p' q e1 e2 => ?_⟩
          · rw [ez, eu]; exact B21.pI Z a4 _ _
          · rw [ez]; exact x7
          · rw [IS _ (by decide), (y3.1 264).1, i8, if_pos rfl]
          · rw [ez] at e2
            obtain ⟨z1, z2, z3⟩ := x9 q e2
            have ei : z_itr kd p' = ((0, (z_exr kd (.inr p')).1), (z_exr kd (.inr p')).2) := by
              unfold z_itr
              rw [if_neg (f2 p' e1), if_neg (by have := g2 p' e1; have := k2 p' e1; have := m2 p' e1; omega)]
            rw [e1] at z1 z2 z3
            rw [ei]
            refine ⟨by rw [cu]; exact z2, ⟨by rw [cu, z2]; exact Nat.le_refl _, Or.inl ⟨rfl, by rw [AG, y5.2.2.2.1, AR8]; exact hG⟩, Or.inr ⟨by show (0 : Nat) ≠ 20; decide, z3, by rw [AI, if_pos rfl], z1.kp (by rw [z2]; exact Nat.le_refl _) K9 (fun a ha => ?_)⟩⟩, ?_, ?_⟩
            · simp only [List.mem_cons, List.not_mem_nil, or_false] at ha
              omega
            · rw [IS _ (by decide), (y3.1 328).1, i8, if_neg (by decide), if_pos rfl]
            · rw [eu, x_I_I, if_pos ⟨rfl, rfl⟩]
              have nx : g_R s20 651 (g_cnt u 11 * 64 + 11) = (if 0 + 1 < (z_exr kd (.inr p')).1.length then some ((g_cnt u 11 + 0 + 1) * 64 + 11) else none) := (z1 0 (by omega)).2
              show z_g (rk || decide (g_R s20 651 (g_cnt u 11 * 64 + 11) ≠ none)) = z_g (rk || (decide (((0, (z_exr kd (.inr p')).1) : z_It).1 = 0) && decide (1 < (z_exr kd (.inr p')).1.length)))
              rw [nx, show decide (((0, (z_exr kd (.inr p')).1) : z_It).1 = 0) = true from rfl, Bool.true_and]
              by_cases y : 0 + 1 < (z_exr kd (.inr p')).1.length
              · rw [if_pos y, decide_eq_true (show 1 < (z_exr kd (.inr p')).1.length by omega), decide_eq_true (by simp)]
              · rw [if_neg y, decide_eq_false (show ¬ 1 < (z_exr kd (.inr p')).1.length by omega), decide_eq_false (by simp)]
end
