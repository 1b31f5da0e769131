/-! THE ENGINE READS ALL PARTS, AND ORDER BY -/
def E_ot (pl : Nat → Nat) (wd : Nat → Int64) (u : g_St) (t : Nat) (sel : Option Nat) (p : Nat) : Prop := g_I u 11 t = 0 ∧ g_I u 75 t = Int32.ofNat (pl p) ∧ g_R u 139 t = sel ∧ g_R u 203 t = none ∧ g_L u 331 t = wd p ∧ g_L u 395 t = wd (p + 2) ∧ wd (p + 2) ≠ 0 ∧ g_R u 523 t = none ∧ g_I u 587 t = 0 ∧ g_I u 459 t = 1 ∧ g_R u 651 t = none
theorem E_ot.sm {pl : Nat → Nat} {wd : Nat → Int64} {u v : g_St} {t : Nat} {sel : Option Nat} {p : Nat} (h : E_ot pl wd u t sel p) (s : E_sm u v t) : E_ot pl wd v t sel p := by
  unfold E_ot at *
  rw [(s.1 11).1, (s.1 75).1, (s.1 139).2.2, (s.1 203).2.2, (s.1 331).2.1, (s.1 395).2.1, (s.1 523).2.2, (s.1 587).1, (s.1 459).1, (s.1 651).2.2]
  exact h
def E_ors (pl : Nat → Nat) (wd : Nat → Int64) (u : g_St) (O k : Nat) (sel : Option Nat) (l : List Nat) : Prop := ∀ m, m < l.length → g_AR u O m = some ((k + m) * 64 + 11) ∧ k + m < g_cnt u 11 ∧ E_ot pl wd u ((k + m) * 64 + 11) sel (l.getD m 0)
def E_of (c : z_Cx) (O : Nat) (u0 s : g_St) : Prop := E_kp [c.1, O] u0 s ∧ E_ct [11] u0 s ∧ (∀ k, g_R s k c.1 = g_R u0 k c.1) ∧ (∀ k, k ≠ 326 → g_I s k c.1 = g_I u0 k c.1) ∧ g_ln s O = g_ln u0 O ∧ g_R s 514 2 = g_R u0 514 2 ∧ g_R s 578 2 = g_R u0 578 2
def E_os (pl : Nat → Nat) (wd : Nat → Int64) (c : z_Cx) (O : Nat) (u0 s : g_St) (l : List Nat) : Prop := g_I s 326 c.1 = Int32.ofNat l.length ∧ g_cnt s 11 = g_cnt u0 11 + l.length ∧ E_ors pl wd s O (g_cnt u0 11) (g_R u0 514 2) l
section
variable {n : Nat} {kd pl : Nat → Nat} {wd vl : Nat → Int64} {c : z_Cx} {A O : Nat} {u0 : g_St}
theorem a_pts (Z : E_cx c) (H : z_H n kd) (hwd : ∀ i, i < n → kd i = 36 → wd i ≠ 0) (hvl : ∀ i, i < n → kd i = 37 → wd i = vl i) (hA : E_qA c u0 A O) {d p0 : Nat} (hd : d ≤ 30) (hb : E_b n kd pl wd c u0 (.inr p0) (3 * p0 + d)) (h70 : g_I u0 70 c.1 = 0) : ∃ u', f_Re_read_53 200000 (some 2) 1 0 u0 = f_Re_read_187 (some 2) u' ∧ E_b n kd pl wd c u' (z_lst kd 25 (z_par kd vl) 3 p0).2 (3 * z_pk (z_lst kd 25 (z_par kd vl) 3 p0).2 + d + z_sl (z_lst kd 25 (z_par kd vl) 3 p0).2 8) ∧ E_pf c A u0 u' ∧ p0 ≤ z_pk (z_lst kd 25 (z_par kd vl) 3 p0).2 ∧ (z_lst kd 25 (z_par kd vl) 3 p0).1.length ≤ 4 ∧ ∀ q, (z_lst kd 25 (z_par kd vl) 3 p0).2 = .inr q → E_pas pl wd c A u0 u' (z_lst kd 25 (z_par kd vl) 3 p0).1 := by
  have key := a_loop (kd := kd) (fun f x i s => f_Re_read_53 f (some 2) x (Int32.ofNat i) s) (f_Re_read_187 (some 2)) (f_Re_accept (some 2) (some 1613)) 25 (z_par kd vl) 3 (fun p l s => E_b n kd pl wd c s (.inr p) (3 * p + d) ∧ E_pf c A u0 s ∧ p0 ≤ p ∧ E_pas pl wd c A u0 s l) (fun r l s => E_b n kd pl wd c s r (3 * z_pk r + d + z_sl r 8) ∧ E_pf c A u0 s ∧ p0 ≤ z_pk r ∧ ∀ q, r = .inr q → E_pas pl wd c A u0 s l)
    (fun f i s => ?_) (fun r l s hJ => ?_) (fun p l u f hl hJ => ?_) 3 p0 [] u0 200000 rfl (by omega) ⟨hb, ⟨E_kp.re, E_ct.re, fun _ => rfl, fun _ _ => rfl, rfl⟩, Nat.le_refl _, h70, ⟨rfl, rfl, rfl, rfl, rfl⟩, (fun m hm => by cases hm)⟩
  · obtain ⟨u', b1, ⟨b2, b3, b4, b5⟩, b6⟩ := key
    exact ⟨u', b1, b2, b3, b4, b6, b5⟩
  · show f_Re_read_53 (f + 1) (some 2) 0 (Int32.ofNat i) s = _
    rw [f_Re_read_53]
    by_cases w : 4 ≤ Int32.ofNat i
    · rw [if_pos w]
    · rw [if_neg w, if_pos rfl]
  · obtain ⟨b1, b2, b3, b4⟩ := hJ
    obtain ⟨t, x1, x2, x3⟩ := a_ac Z H b1 (k := 25) (by decide)
    refine ⟨t, x1, fun w => ?_, fun q e1 e2 => ?_⟩
    · rw [z_skr_false w] at x2
      exact ⟨x2, b2.as Z x3, b3, fun q e => (b4 q e).as Z x3⟩
    · rw [e1] at x2 b3
      rw [z_skr_t e2] at x2
      have b3' : p0 ≤ q := b3
      exact ⟨x2.mono (by show 3 * q + d + 0 ≤ 3 * (q + 1) + d; omega), b2.as Z x3, by omega, (b4 q e1).as Z x3⟩
  · obtain ⟨b1, b2, b3, b4⟩ := hJ
    obtain ⟨s, a1, a2, a3, a4, a5⟩ := a_pt (vl := vl) Z H hwd hvl hA hd hl b1 b2 b4 f
    exact ⟨s, a1, a2, a3, Nat.le_trans b3 a4, a5⟩
theorem E_of.as {s t : g_St} (Z : E_cx c) (h : E_of c O u0 s) (g : E_as s t) : E_of c O u0 t := by
  obtain ⟨h1, h2, h3, h4, h5, h6, h7⟩ := h
  exact ⟨h1.trans (g.kp _) (fun a ha => Or.inl ha), fun t x y => by rw [g.1]; exact h2 t x y, fun k => by rw [g.2.2.2.2.1]; exact h3 k, fun k x => by rw [((g.sm Z.q.ne2).1 k).1]; exact h4 k x, by rw [g.2.2.2.2.2.2.2.2.1]; exact h5, by rw [g.2.2.2.2.1]; exact h6, by rw [g.2.2.2.2.1]; exact h7⟩
theorem E_os.as {s t : g_St} {l : List Nat} (Z : E_cx c) (h : E_os pl wd c O u0 s l) (g : E_as s t) : E_os pl wd c O u0 t l :=
  ⟨by rw [((g.sm Z.q.ne2).1 _).1]; exact h.1, by rw [g.1]; exact h.2.1, fun m hm => ⟨by rw [g.2.2.2.2.2.2.2.1]; exact (h.2.2 m hm).1, by rw [g.1]; exact (h.2.2 m hm).2.1, (h.2.2 m hm).2.2.sm (g.sm (by omega))⟩⟩
/-- one column of ORDER BY, stuck or not; b: whether a name stands there -/
theorem a_o48 (Z : E_cx c) (H : z_H n kd) (hwd : ∀ i, i < n → kd i = 36 → wd i ≠ 0) (hA : E_qA c u0 A O) {d : Nat} (hd : d ≤ 40) {r : z_P} {l : List Nat} {u : g_St} (hl : l.length ≤ 1) (hb : E_b n kd pl wd c u r (3 * z_pk r + d)) (hf : E_of c O u0 u) (h578 : g_R u0 578 2 = none) (hs : E_os pl wd c O u0 u l) (k11 : Option Nat → Int32 → Int32 → g_St → Option (Unit × g_St)) {b : Bool} {r1 : z_P} (h1 : E_ps (g_setI u 386 2 (z_g b)) n r1) (h2 : ∀ p, r1 = .inr p → r = .inr p ∧ kd p = 36) (h3 : z_pk r1 = z_pk r) :
    ∃ s, f_Re_order_48 k11 (some 2) (Int32.ofNat l.length) (some 2) (z_g b) u = (if 1 ≤ l.length then k11 (some 2) 0 (Int32.ofNat (l.length + 1)) s else g_c (f_Re_accept (some 2) (some 1613) s) fun i t => if i = 0 then k11 (some 2) 0 (Int32.ofNat (l.length + 1)) t else k11 (some 2) 1 (Int32.ofNat (l.length + 1)) t) ∧ E_b n kd pl wd c s (z_opp kd r1) (3 * z_pk (z_opp kd r1) + d + z_sl (z_opp kd r1) 6) ∧ E_of c O u0 s ∧ z_pk r ≤ z_pk (z_opp kd r1) ∧ ∀ p q, r1 = .inr p → z_opp kd r1 = .inr q → E_os pl wd c O u0 s (l ++ [p]) := by
  obtain ⟨⟨mA, mO⟩, ⟨nA, nO⟩, ⟨lA, lO⟩, ⟨rA, rO⟩, zA, zO⟩ := hA
  have nq := Z.q
  have q2 := nq.ne2
  have O2 := nO.ne2
  have mq := Z.1
  obtain ⟨f1, f2, f3, f4, f5, f6, f7⟩ := hf
  obtain ⟨g1, g2, g3⟩ := hs
  obtain ⟨s1, e1⟩ : ∃ s1, s1 = g_setI u 386 2 (z_g b) := ⟨_, rfl⟩
  have A1 : E_as u s1 := by rw [e1]; exact E_as.set (Or.inr rfl) _
  have B1 : E_b n kd pl wd c s1 r1 (3 * z_pk r1 + d) := by
    rw [h3]
    refine hb.as Z A1 (by rw [e1]; exact h1) (fun p e => ⟨p, (h2 p e).1⟩)
  obtain ⟨s5, a1, a2, a3, a4, a5, a6, a7, a8, a9, a10⟩ := a_op Z H hwd B1 hd false
  have c1 : g_cnt s1 = g_cnt u := A1.1
  rw [c1] at a1 a5 a8 a10
  have alq : g_al s1 c.1 := by show _ < g_cnt s1 _; rw [c1]; exact hb.2.2.2.2.2.1.2.1
  have alO : g_al s1 O := by show _ < g_cnt s1 _; rw [c1]; exact E_alm f1.1 lO
  have sq : E_sm s1 s5 c.1 := a3.at alq (by rw [mq]; decide) (by simp)
  have sO : E_sm s1 s5 O := a3.at alO (by rw [mO]; decide) (by simp)
  obtain ⟨t, ht⟩ : ∃ t, t = g_cnt u 11 * 64 + 11 := ⟨_, rfl⟩
  rw [← ht] at a1 a8 a10
  have t2 : t ≠ 2 := by omega
  have nt : E_nw c t := by rw [ht]; exact hb.new Z (by decide)
  have sq1 : E_sm u s1 c.1 := A1.sm q2
  have R1 : g_R s1 262 c.1 = some O := by rw [A1.2.2.2.2.1, f3]; exact rO
  obtain ⟨s6, e6⟩ : ∃ s6, s6 = g_setAR s5 O l.length (some t) := ⟨_, rfl⟩
  obtain ⟨s12, e12⟩ : ∃ s12, s12 = g_setI (g_setI s6 459 t (z_g true)) 326 c.1 (Int32.ofNat (l.length + 1)) := ⟨_, rfl⟩
  have R5 : ∀ k, g_R s5 k c.1 = g_R u k c.1 := fun k => by rw [(sq.1 k).2.2, A1.2.2.2.2.1]
  have R52 : g_R s5 450 2 = some c.1 := a2.2.2.2.2.1.1
  have l5 : g_ln s5 O = 2 := by rw [sO.2.2.2.2, A1.2.2.2.2.2.2.2.2.1, f5]; exact zO
  have B12 : E_b n kd pl wd c s12 (z_opp kd r1) (3 * z_pk (z_opp kd r1) + d + z_sl (z_opp kd r1) 6) := by rw [e12, e6]; exact ((a2.sR Z nO _ _).pI Z nt _ _).pI Z nq _ _
  have K12 : E_kp [c.1, O] u s12 := by
    have okt : E_ok [c.1, O] u t := ⟨t2, Or.inr (Or.inr (Or.inr (by rw [ht]; exact E_nal (by decide))))⟩
    rw [e12, e6]
    exact ((((A1.kp [c.1, O]).trans a3 (fun a ha => by cases ha)).sR ⟨O2, Or.inl (by simp)⟩ _ _).pI okt _ _).pI ⟨q2, Or.inl (by simp)⟩ _ _
  have neq : t ≠ c.1 := fun e => by rw [← e] at mq; omega
  have c12 : g_cnt s12 = g_cnt s5 := by rw [e12, e6]; rfl
  have R12 : g_R s12 = g_R s5 := by rw [e12, e6]; rfl
  have st : f_Re_order_48 k11 (some 2) (Int32.ofNat l.length) (some 2) (z_g b) u = (if 1 ≤ l.length then k11 (some 2) 0 (Int32.ofNat (l.length + 1)) s12 else g_c (f_Re_accept (some 2) (some 1613) s12) fun i t => if i = 0 then k11 (some 2) 0 (Int32.ofNat (l.length + 1)) t else k11 (some 2) 1 (Int32.ofNat (l.length + 1)) t) := by
    unfold f_Re_order_48
    rw [x_pZ, ← e1, x_gR, B1.2.2.2.2.1.1, x_gR, R1, x_nn, show (0 : Int32) = z_g false from rfl, a1, x_c, x_sR (by omega) (by rw [l5]; omega), ← e6, x_gR, show g_R s6 450 2 = some c.1 from (by rw [e6]; exact R52), x_gR, show g_R s6 262 c.1 = some O from (by rw [e6]; show g_R s5 262 c.1 = _; rw [R5, f3]; exact rO), x_aR (by omega) (by rw [e6]; show _ < g_ln s5 O; rw [l5]; omega), show g_AR s6 O l.length = some t from (by rw [e6, x_AR_AR, if_pos ⟨rfl, rfl⟩]), show (1 : Int32) = z_g true from rfl, x_pZ, x_gR, show g_R (g_setI s6 459 t (z_g true)) 450 2 = some c.1 from (by rw [e6]; exact R52), show z_g true = 1 from rfl, x_p1, x_pI, show (1 : Int32) = z_g true from rfl, ← e12]
    have e4 : (2 ≤ Int32.ofNat (l.length + 1)) = (2 ≤ l.length + 1) := x_le (a := 2) (by decide) (by omega)
    by_cases w : 1 ≤ l.length
    · rw [if_pos w, if_pos (by rw [e4]; omega)]
    · rw [if_neg w, if_neg (by rw [e4]; omega), x_nn]
  have r514 : g_R s1 514 2 = g_R u0 514 2 ∧ g_R s1 578 2 = none := by rw [A1.2.2.2.2.1, f6, f7]; exact ⟨rfl, h578⟩
  refine ⟨s12, st, B12, ⟨f1.trans K12 (fun a ha => Or.inl ha), fun t' x y => ?_, fun k => by rw [R12, R5]; exact f3 k, fun k hk => ?_, ?_, by rw [R12, a6, A1.2.2.2.2.1]; exact f6, by rw [R12, a7, A1.2.2.2.2.1]; exact f7⟩, by rw [← h3]; exact a9, fun p q y1 y2 => ?_⟩
  · rw [c12, a4 t' x y, c1]; exact f2 t' x y
  · rw [e12, x_I_I, if_neg (fun q => hk q.1), x_I_I, if_neg (fun q => neq q.2.symm), e6]
    show g_I s5 k c.1 = _
    rw [(sq.1 k).1, (sq1.1 k).1]; exact f4 k hk
  · rw [e12, e6]
    show g_ln s5 O = _
    rw [l5]; exact zO.symm
  · obtain ⟨hr, hk⟩ := h2 p y1
    have hop : ∃ x, z_op1 kd p = .inr (x, q) := by
      rw [y1] at y2
      unfold z_opp at y2
      simp only [] at y2
      cases ho : z_op1 kd p with
      | inl y => rw [ho] at y2; cases y2
      | inr y =>
        rw [ho] at y2
        obtain ⟨x, q'⟩ := y
        cases y2
        exact ⟨x, rfl⟩
    obtain ⟨x, hx⟩ := hop
    obtain ⟨z1, z2⟩ := a10 p x q y1 hx
    obtain ⟨w1, w2, w3, w4, w5⟩ := z_op1_e (by omega) (by omega) hx
    rw [w1, r514.1, r514.2] at z2
    obtain ⟨v1, v2, v3, v4, v5, v6, v7, v8, v9, v10, v11, v12⟩ := z2
    obtain ⟨v71, v72, v73⟩ := v7 rfl
    have ln : (l ++ [p]).length = l.length + 1 := by rw [List.length_append, List.length_singleton]
    have It : ∀ k, g_I s12 k t = if k = 459 then 1 else g_I s5 k t := fun k => by
      rw [e12, x_I_I, if_neg (fun q => neq q.2), x_I_I, e6]
      by_cases y : k = 459
      · rw [if_pos ⟨y, rfl⟩, if_pos y]; rfl
      · rw [if_neg (fun q => y q.1), if_neg y]; rfl
    have Lt : g_L s12 = g_L s5 := by rw [e12, e6]; rfl
    refine ⟨by rw [ln, e12, x_I_I, if_pos ⟨rfl, rfl⟩], by rw [c12, a5, g2, ln]; omega, fun m hm => ?_⟩
    rw [ln] at hm
    by_cases w : m < l.length
    · obtain ⟨y3, y4, y5⟩ := g3 m w
      have mm : (g_cnt u0 11 + m) * 64 + 11 ∉ [c.1, O] := fun q => by
        simp only [List.mem_cons, List.not_mem_nil, or_false] at q
        rcases q with e | e
        · rw [← e] at mq; omega
        · rw [← e] at mO; omega
      have sm := K12.at (by rw [E_alc (by decide)]; exact y4) (by rw [(E_num (by decide)).2]; decide) mm
      rw [z_getD_l w]
      refine ⟨?_, Nat.lt_of_lt_of_le y4 (K12.1 11), y5.sm sm⟩
      rw [e12, e6]
      show g_AR (g_setAR s5 O l.length (some t)) O m = _
      rw [x_AR_AR, if_neg (fun q => by have := q.2; omega), sO.2.2.2.1, A1.2.2.2.2.2.2.2.1]; exact y3
    · have em : m = l.length := by omega
      rw [em, z_getD_e, ← g2, ← ht]
      refine ⟨?_, by rw [c12, a5]; omega, ?_, ?_, ?_, ?_, ?_, ?_, v73, ?_, ?_, ?_, ?_⟩
      · rw [e12, e6]
        show g_AR (g_setAR s5 O l.length (some t)) O l.length = _
        rw [x_AR_AR, if_pos ⟨rfl, rfl⟩]
      · rw [It, if_neg (by decide)]; exact v1
      · rw [It, if_neg (by decide)]; exact v2
      · rw [R12]; exact v3
      · rw [R12]; exact v4
      · rw [Lt]; exact v71
      · rw [Lt]; exact v72
      · rw [R12]; exact v9
      · rw [It, if_neg (by decide)]; exact v10
      · rw [It, if_pos rfl]
      · rw [R12]; exact a8
end
