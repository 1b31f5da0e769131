/-! THE ENGINE'S CHECK: columns have their meaning, whole -/
theorem z_ff_app {P : Nat → Bool} : ∀ (d e i : Nat), z_ff P (d + e) i = match z_ff P d i with | some j => some j | none => z_ff P e (i + d) := by
  intro d
  induction d with
  | zero => intro e i; rw [Nat.zero_add]; rfl
  | succ d ih =>
    intro e i
    rw [show d + 1 + e = (d + e) + 1 by omega, z_ff, z_ff]
    by_cases w : P i = true
    · rw [if_pos w, if_pos w]
    · rw [if_neg w, if_neg w, ih e (i + 1), show i + 1 + d = i + (d + 1) by omega]
theorem z_mtbB (w B : Nat) (tc : Nat) : z_ff (fun k => decide (w = B + k)) tc 0 = if B ≤ w ∧ w < B + tc then some (w - B) else none := by
  cases h : z_ff (fun k => decide (w = B + k)) tc 0 with
  | some k =>
    obtain ⟨a1, a2, a3, -⟩ := z_ff_some h
    have e := of_decide_eq_true a3
    rw [if_pos ⟨by omega, by omega⟩, show w - B = k by omega]
  | none =>
    have no := z_ff_none h
    rw [if_neg (fun q => by
      have := no (w - B) (Nat.zero_le _) (by omega)
      rw [decide_eq_true (by omega)] at this
      cases this)]
def z_pcf (N : Nat → Nat) (X : z_Pa) (q i : Nat) : Bool := if i < X.2.1.length then decide (N (X.2.1.getD i 0) = N q) else if i = 3 then z_mark N X q else if i = 4 then z_trl N X q else false
theorem z_pcf_ff {N : Nat → Nat} {X : z_Pa} {q : Nat} (h : X.2.1.length ≤ 3) : z_ff (z_pcf N X q) 5 0 = z_pcl N X q := by
  have e : (5 : Nat) = X.2.1.length + ((3 - X.2.1.length) + 2) := by omega
  rw [e, z_ff_app, z_ff_app]
  have e1 : z_ff (z_pcf N X q) X.2.1.length 0 = z_ff (fun i => decide (N (X.2.1.getD i 0) = N q)) X.2.1.length 0 := z_ff_cg (fun j _ h2 => by unfold z_pcf; rw [if_pos (by omega)])
  have e2 : z_ff (z_pcf N X q) (3 - X.2.1.length) (0 + X.2.1.length) = none := z_ff_no (fun j h1 h2 => by unfold z_pcf; rw [if_neg (by omega), if_neg (by omega), if_neg (by omega)])
  rw [e1, e2, show 0 + X.2.1.length + (3 - X.2.1.length) = 3 by omega]
  unfold z_pcl
  cases z_ff (fun i => decide (N (X.2.1.getD i 0) = N q)) X.2.1.length 0 with
  | some i => rfl
  | none =>
    have f3 : z_pcf N X q 3 = z_mark N X q := by unfold z_pcf; rw [if_neg (by omega), if_pos rfl]
    have f4 : z_pcf N X q 4 = z_trl N X q := by unfold z_pcf; rw [if_neg (by omega), if_neg (by decide), if_pos rfl]
    show z_ff (z_pcf N X q) 2 3 = _
    rw [z_ff, z_ff, z_ff, f3, f4]
section
variable {n q : Nat} {kd pl nw nv : Nat → Nat} {wd vl : Nat → Int64} {c : z_Cx} {A O : Nat} {b : Nat → Nat} {x : z_Qu} {tc : Nat} {cols : Nat → Nat} {xs ys : List Nat} {u0 : g_St}
theorem k_ix (NM : z_NM n kd wd vl nw nv) (S : E_S pl wd c A O b x tc cols xs ys u0) (hp : ∀ k, k < x.2.1.length → z_pnm n kd (x.2.1.getD k z_pa0)) {v : g_St} (V : E_V c tc u0 v) (N : E_ns n kd nw wd b x tc u0 v) {j tq t : Nat} (h1 : b 9 ≤ j) (h2 : j < g_cnt u0 9) (h3 : g_L u0 201 (j * 64 + 9) = wd tq) (i1 : z_isn n kd tq) (i2 : z_isn n kd t) : f_Ch_indexIn (some 3) (some (j * 64 + 9)) (wd t) v = some (z_oc (z_cln nw x.2.1 cols (z_mng nw x.2.1 tc tq) t), v) := by
  obtain ⟨n1, n2⟩ := N j tq h1 h2 h3 i1
  obtain ⟨m1, m2⟩ := z_mng_lt (N := nw) (ps := x.2.1) (tc := tc) (t := tq)
  obtain ⟨w1, w2, w3, w4, w5, w6⟩ := NM.1 t i2.1 i2.2
  generalize z_mng nw x.2.1 tc tq = m at n1 n2 m1 m2 ⊢
  obtain ⟨⟨q1, q2, q3, q4⟩, qA, qp, qo, qe, qc, qr⟩ := S.1
  obtain ⟨-, -, -, -, -, l29, tc5, tb⟩ := S
  cases m with
  | none =>
    unfold f_Ch_indexIn
    rw [x_gI, n1, if_pos (show z_ppE none < 0 from by decide), x_gI, n2, if_pos (show z_ptE none < 0 from by decide)]
    rfl
  | some mm =>
    cases mm with
    | inr k =>
      have hk := m2 k rfl
      obtain ⟨r, r1, r2, r3⟩ := tb k hk
      have n2' : g_I v 457 (j * 64 + 9) = Int32.ofNat k := n2
      unfold f_Ch_indexIn
      rw [x_gI, n1, if_pos (show z_ppE (some (.inr k)) < 0 from (by decide : (-1 : Int32) < 0)), x_gI, n2', if_neg (show ¬ Int32.ofNat k < 0 from by rw [show (0 : Int32) = Int32.ofNat 0 from rfl, x_lt (by omega) (by omega)]; omega), w1, show (97 : Int64) = Int64.ofNat 97 from rfl]
      have ei := z_i64s (k := 97) (show nw t < 2 ^ 48 by omega) (by decide)
      show _ = some (z_oc (z_ff (fun k => decide (nw t = 97 + k)) (cols k) 0), v)
      rw [z_mtbB]
      by_cases w : 97 ≤ nw t
      · rw [if_neg (by rw [Int64.lt_iff_toInt_lt, ei, Int64.toInt_zero]; omega), x_gR, V.2.2.1, x_gI, n2', x_aR (by omega) (by rw [V.ln, l29]; omega), V.AR, r1, x_gI, V.I (by decide), r2, z_toI64 (by omega)]
        have et : (Int64.ofNat (cols k) ≤ Int64.ofNat (nw t) - Int64.ofNat 97) = (cols k ≤ nw t - 97) := by
          rw [Int64.le_iff_toInt_le, ei, Int64.toInt_ofNat_of_lt (by omega)]
          exact propext ⟨fun h => by omega, fun h => by omega⟩
        by_cases w2 : nw t < 97 + cols k
        · rw [if_neg (by rw [et]; omega), if_pos ⟨w, w2⟩, ← Int64.ofNat_sub _ _ w]
          have e3 : nw t - 97 = 0 ∨ nw t - 97 = 1 ∨ nw t - 97 = 2 := by omega
          rcases e3 with e | e | e <;> (rw [e]; rfl)
        · rw [if_pos (by rw [et]; omega), if_neg (by omega)]; rfl
      · rw [if_pos (by rw [Int64.lt_iff_toInt_lt, ei, Int64.toInt_zero]; omega), if_neg (by omega)]; rfl
    | inl k =>
      have hk := m1 k rfl
      have n1' : g_I v 393 (j * 64 + 9) = Int32.ofNat k := n1
      obtain ⟨-, P⟩ := qp k hk
      obtain ⟨p1, p2, p3, p4, aW, aQ, aL, p5, p6, p7, p8, p9, p10, p11, p12⟩ := P
      obtain ⟨v1, v2, v3, v4⟩ := hp k hk
      have hf : ∀ i, i < 5 → (g_AL v (aW * 64 + 21) i = wd t) = (z_pcf nw (x.2.1.getD k z_pa0) t i = true) := by
        intro i hi
        have z0 : ((0 : Int64) = wd t) = (false = true) := propext ⟨fun h => absurd h.symm (z_wd0 NM i2), fun h => by cases h⟩
        unfold z_pcf
        rw [V.AL]
        by_cases c1 : i < (x.2.1.getD k z_pa0).2.1.length
        · rw [if_pos c1, (p8 i c1).1, NM.eqE (v2 i c1) i2, decide_eq_true_eq]
        · rw [if_neg c1]
          by_cases c2 : i = 3
          · rw [if_pos c2, c2]
            unfold z_mark
            cases hx : (x.2.1.getD k z_pa0).2.2.2.2.2 with
            | none => rw [hx] at p11; rw [p11.2.1]; exact z0
            | some y => rw [hx] at p11; rw [p11.2.2.2.1, NM.eqE (v4 y hx).2 i2]; simp only [decide_eq_true_eq]
          · rw [if_neg c2]
            by_cases c3 : i = 4
            · rw [if_pos c3, c3]
              unfold z_trl
              cases hx : (x.2.1.getD k z_pa0).2.2.2.2.1 with
              | none => rw [hx] at p10; rw [p10.2.2.1]; exact z0
              | some y => rw [hx] at p10; rw [p10.2.2.2.2.1, NM.eqE (v3 y hx).2 i2]; simp only [decide_eq_true_eq]
            · rw [if_neg c3, p9 i (by omega) (by omega)]
              exact z0
      have key : ∀ d i f, i + d = 5 → d < f → f_Ch_indexIn_24 f (wd t) (some ((b 7 + k) * 64 + 7)) (Int32.ofNat i) v = some (z_oc (z_ff (z_pcf nw (x.2.1.getD k z_pa0) t) d i), v) := by
        intro d
        induction d with
        | zero =>
          intro i f e1 e2
          obtain ⟨f, rfl⟩ : ∃ m, f = m + 1 := ⟨f - 1, by omega⟩
          rw [f_Ch_indexIn_24, if_pos (by rw [show (4 : Int32) = Int32.ofNat 4 from rfl, x_lt (by omega) (by omega)]; omega)]
          rfl
        | succ d ih =>
          intro i f e1 e2
          obtain ⟨f, rfl⟩ : ∃ m, f = m + 1 := ⟨f - 1, by omega⟩
          rw [f_Ch_indexIn_24, if_neg (by rw [show (4 : Int32) = Int32.ofNat 4 from rfl, x_lt (by omega) (by omega)]; omega), x_gR, V.R (by decide), p6.1, x_aL (by omega) (by rw [V.ln, p7.1]; omega), z_ff]
          by_cases e : z_pcf nw (x.2.1.getD k z_pa0) t i = true
          · rw [if_pos (by rw [hf i (by omega)]; exact e), if_pos e]; rfl
          · rw [if_neg (by rw [hf i (by omega)]; exact e), if_neg e, x_p1]
            exact ih (i + 1) f (by omega) (by omega)
      have k0 := key 5 0 200000 (by omega) (by omega)
      rw [z_pcf_ff p4.1] at k0
      unfold f_Ch_indexIn
      rw [x_gI, n1', if_neg (show ¬ Int32.ofNat k < 0 from by rw [show (0 : Int32) = Int32.ofNat 0 from rfl, x_lt (by omega) (by omega)]; omega)]
      rw [x_gR, V.2.1, x_gR, V.R (by decide), qA.2.2.2.1.1, x_gI, n1', x_aR (by omega) (by rw [V.ln, qA.2.2.2.2.1]; omega), V.AR, (qp k hk).1]
      exact k0
theorem k_sro (S : E_S pl wd c A O b x tc cols xs ys u0) (W : z_wqu kd q x) (hq : q ≤ n) {a s t k : Nat} {wi top : Option Nat} (T : E_tff n kd pl wd b x u0 a s wi top t) (hk : z_slt nw (z_sv x s).2.2.2.1 t wi = some k) : ∃ j tq, E_srO u0 ((b 8 + s) * 64 + 8) top (some k) = some (j * 64 + 9) ∧ b 9 ≤ j ∧ j < g_cnt u0 9 ∧ z_isn n kd tq ∧ z_tmn nw x.2.1 tc (z_sv x s).2.2.2.1 wi (some k) = z_mng nw x.2.1 tc tq ∧ E_so pl wd u0 j (some ((b 8 + s) * 64 + 8)) (z_oc (if k = 3 then none else some k)) tq := by
  obtain ⟨t1, t2, t3, t4, t5, t6, t7, t8, t9⟩ := T
  obtain ⟨i, kk, j, s1, s2, s3⟩ := k_sel S.1 t1
  obtain ⟨e1, e2, e3, e4, e5, e6, a26, a23, a27, a28, e7, e8, e9, e10, e11, e12⟩ := s3
  obtain ⟨p, r, hr, hw⟩ := z_sv_w W hq t1
  have l3 := e6.2.1
  rcases z_slt_lt hk with h | ⟨h, w, hwi⟩
  · obtain ⟨g1, g2, g3⟩ := e11 k h
    refine ⟨j + k, (z_sv x s).2.2.2.1.getD k 0, ?_, by omega, g2, (q_so.isn (sl := some k) hw hr ⟨h, rfl⟩).1, ?_, ?_⟩
    · unfold E_srO
      simp only []
      rw [if_neg (by omega), e8.2.2.1]
      exact g1
    · unfold z_tmn
      simp only []
      rw [if_neg (by omega)]
    · rw [if_neg (by omega)]; exact g3
  · rw [hwi] at t4
    obtain ⟨k', jj, g1, g2, g3, g4, g5⟩ := t4
    refine ⟨jj, w, ?_, g3, g4.1, (t9 w hwi).1, ?_, ?_⟩
    · unfold E_srO
      simp only []
      rw [if_pos h, g1]
      exact g2
    · rw [hwi]
      unfold z_tmn
      simp only []
      rw [if_pos h]
    · rw [if_pos h]; exact g5
theorem k_tx (NM : z_NM n kd wd vl nw nv) (S : E_S pl wd c A O b x tc cols xs ys u0) (W : z_wqu kd q x) (hq : q ≤ n) {a s t : Nat} {wi top : Option Nat} (T : E_tff n kd pl wd b x u0 a s wi top t) {p : Option Nat} (e : p = E_srO u0 ((b 8 + s) * 64 + 8) top (z_slt nw (z_sv x s).2.2.2.1 t wi)) : (p = none → z_tcl nw x.2.1 tc cols (z_sv x s).2.2.2.1 wi t = none) ∧ ∀ r, p = some r → ∀ v, E_V c tc u0 v → E_ns n kd nw wd b x tc u0 v → f_Ch_indexIn (some 3) (some r) (wd (t + 2)) v = some (z_oc (z_tcl nw x.2.1 tc cols (z_sv x s).2.2.2.1 wi t), v) := by
  have hp := z_wqu_ps W hq
  unfold z_tcl
  cases hk : z_slt nw (z_sv x s).2.2.2.1 t wi with
  | none =>
    rw [hk] at e
    refine ⟨fun _ => rfl, fun r hr => ?_⟩
    rw [hr] at e
    cases e
  | some k =>
    obtain ⟨j, tq, j1, j2, j3, j4, j5, j6⟩ := k_sro (tc := tc) (nw := nw) S W hq T hk
    rw [hk, j1] at e
    refine ⟨fun h => (by rw [h] at e; cases e), fun r hr v V N => ?_⟩
    rw [hr] at e
    cases e
    rw [j5]
    exact k_ix NM S hp V N j2 j3 j6.2.2.2.1 j4 T.2.2.2.2.2.2.2.1
def E_cn (nw : Nat → Nat) (b : Nat → Nat) (x : z_Qu) (N : Nat) (v : g_St) : Prop := ∀ m, m < N → g_I v 1031 ((b 7 + m) * 64 + 7) = z_oc (z_sc nw (x.2.1.getD m z_pa0)) ∧ g_I v 1095 ((b 7 + m) * 64 + 7) = z_oc (z_cy nw (x.2.1.getD m z_pa0))
def E_nc (n : Nat) (kd pl nw : Nat → Nat) (wd : Nat → Int64) (b : Nat → Nat) (x : z_Qu) (tc : Nat) (cols : Nat → Nat) (ys : List Nat) (u v : g_St) : Prop := (∀ a ∈ ys, ∀ s wi top t, E_tff n kd pl wd b x u a s wi top t → g_R v 523 a = E_srO u ((b 8 + s) * 64 + 8) top (z_slt nw (z_sv x s).2.2.2.1 t wi) ∧ g_I v 587 a = z_oc (z_tcl nw x.2.1 tc cols (z_sv x s).2.2.2.1 wi t)) ∧ ∀ a, a ∉ ys → g_R v 523 a = g_R u 523 a
theorem E_ns.fk {v w : g_St} {KI KR : List Nat} (h : E_ns n kd nw wd b x tc u0 v) (f : E_fk KI KR v w) (h1 : 393 ∉ KI) (h2 : 457 ∉ KI) : E_ns n kd nw wd b x tc u0 w := fun a t a1 a2 a3 a4 => by rw [f.2.1 _ _ h1, f.2.1 _ _ h2]; exact h a t a1 a2 a3 a4
theorem k_nc50 (NM : z_NM n kd wd vl nw nv) (S : E_S pl wd c A O b x tc cols xs ys u0) (W : z_wqu kd q x) (hq : q ≤ n) {s7 : g_St} (V7 : E_V c tc u0 s7) (N7 : E_ns n kd nw wd b x tc u0 s7) (U7 : ∀ a, g_R s7 523 a = g_R u0 523 a) : ∃ v, f_Ch_nameColumns_50 200000 (some 3) 0 s7 = some ((), v) ∧ E_V c tc u0 v ∧ E_fk [587] [523] s7 v ∧ E_nc n kd pl nw wd b x tc cols ys u0 v := by
  obtain ⟨Q, ⟨r1, r2⟩, ⟨l1, l2⟩, ⟨x1, x2⟩, y1, t1, t2, t3⟩ := S
  have SS : E_S pl wd c A O b x tc cols xs ys u0 := ⟨Q, ⟨r1, r2⟩, ⟨l1, l2⟩, ⟨x1, x2⟩, y1, t1, t2, t3⟩
  have hl := l2.len
  refine z_cl ys.length (fun f i s => f_Ch_nameColumns_50 f (some 3) (Int32.ofNat i) s) (fun s => some ((), s)) (fun j s => E_V c tc u0 s ∧ E_fk [587] [523] s7 s ∧ (∀ a, a ∉ ys → g_R s 523 a = g_R u0 523 a) ∧ ∀ i, i < j → ∀ s' wi top t, E_tff n kd pl wd b x u0 (ys.getD i 0) s' wi top t → g_R s 523 (ys.getD i 0) = E_srO u0 ((b 8 + s') * 64 + 8) top (z_slt nw (z_sv x s').2.2.2.1 t wi) ∧ g_I s 587 (ys.getD i 0) = z_oc (z_tcl nw x.2.1 tc cols (z_sv x s').2.2.2.1 wi t)) (fun v => E_V c tc u0 v ∧ E_fk [587] [523] s7 v ∧ E_nc n kd pl nw wd b x tc cols ys u0 v) ?_ ?_ ys.length 0 s7 200000 (by omega) (by omega) ⟨V7, E_fk.re, fun a _ => U7 a, fun i hi => by omega⟩
  · rintro f s ⟨V, F, U, D⟩
    refine ⟨s, ?_, V, F, fun a ha => ?_, U⟩
    · show f_Ch_nameColumns_50 (f + 1) (some 3) (Int32.ofNat ys.length) s = _
      rw [f_Ch_nameColumns_50, x_gR, V.2.1, x_gR, V.R (by decide), r2, x_nn, k_size (l2.fk V.1 (by decide) (by decide)), x_c, if_pos (by rw [x_le (by omega) (by omega)]; exact Nat.le_refl _)]
    · obtain ⟨i, i1, i2⟩ := z_mgd 0 ha
      rw [← i2]
      exact D i i1
  · rintro f i s hi ⟨V, F, U, D⟩
    have li := l2.fk V.1 (by decide) (by decide)
    have ha : ys.getD i 0 ∈ ys := z_getD_m hi
    obtain ⟨ja, ja1, ja2, ja3, ja4⟩ := (y1 _).mp ha
    rw [ja3] at ja4
    obtain ⟨s0, wi0, top0, t0, T0⟩ := k_tfx Q W hq ja1 ja2 ja4
    rw [← ja3] at T0
    have k0 := k_kn NM SS W hq V T0
    generalize hp0 : E_srO u0 ((b 8 + s0) * 64 + 8) top0 (z_slt nw (z_sv x s0).2.2.2.1 t0 wi0) = p0 at k0
    obtain ⟨s11, e11⟩ : ∃ s11, s11 = g_setR s 523 (ys.getD i 0) p0 := ⟨_, rfl⟩
    have V11 : E_V c tc u0 s11 := by rw [e11]; exact V.pR _ _
    have F11 : E_fk [587] [523] s7 s11 := by rw [e11]; exact F.pR (by decide) _ _
    have N11 := N7.fk F11 (by decide) (by decide)
    have d11 : g_R s11 523 (ys.getD i 0) = p0 := by rw [e11, x_R_R, if_pos ⟨rfl, rfl⟩]
    have step : f_Ch_nameColumns_50 (f + 1) (some 3) (Int32.ofNat i) s = if p0 = none then f_Ch_nameColumns_50 f (some 3) (Int32.ofNat (i + 1)) (g_setI s11 587 (ys.getD i 0) (-1)) else g_c (g_nn (some 3) (f_Ch_indexIn (some 3) p0 (wd (t0 + 2)) s11)) fun i15 s16 => f_Ch_nameColumns_50 f (some 3) (Int32.ofNat (i + 1)) (g_setI s16 587 (ys.getD i 0) i15) := by
      rw [f_Ch_nameColumns_50, x_gR, V.2.1, x_gR, V.R (by decide), r2, x_nn, k_size li, x_c, if_neg (by rw [x_le (by omega) (by omega)]; omega), x_gR, V.2.1, x_gR, V.R (by decide), r2, x_nn, k_get li hi, x_c, x_castS (by rw [ja3]; omega), k0, x_c, x_pR, ← e11, x_gR, d11]
      by_cases w : p0 = none
      · rw [if_pos w, if_pos w, x_pI, x_p1]
      · rw [if_neg w, if_neg w, x_gR, d11, x_gL, V11.L, T0.2.2.2.2.2.1]
        congr 1
        funext i15 s16
        rw [x_pI, x_p1]
    have fin : ∀ z : Int32, (∀ s' wi top t, E_tff n kd pl wd b x u0 (ys.getD i 0) s' wi top t → z = z_oc (z_tcl nw x.2.1 tc cols (z_sv x s').2.2.2.1 wi t)) → E_V c tc u0 (g_setI s11 587 (ys.getD i 0) z) ∧ E_fk [587] [523] s7 (g_setI s11 587 (ys.getD i 0) z) ∧ (∀ a, a ∉ ys → g_R (g_setI s11 587 (ys.getD i 0) z) 523 a = g_R u0 523 a) ∧ ∀ i', i' < i + 1 → ∀ s' wi top t, E_tff n kd pl wd b x u0 (ys.getD i' 0) s' wi top t → g_R (g_setI s11 587 (ys.getD i 0) z) 523 (ys.getD i' 0) = E_srO u0 ((b 8 + s') * 64 + 8) top (z_slt nw (z_sv x s').2.2.2.1 t wi) ∧ g_I (g_setI s11 587 (ys.getD i 0) z) 587 (ys.getD i' 0) = z_oc (z_tcl nw x.2.1 tc cols (z_sv x s').2.2.2.1 wi t) := by
      intro z hz
      refine ⟨V11.pI (by decide) (by decide) _ _, F11.pI (by decide) _ _, fun a hna => ?_, fun i' hi' s' wi top t T => ?_⟩
      · show g_R s11 523 a = _
        rw [e11, x_R_R, if_neg (fun q => hna (by rw [q.2]; exact ha))]
        exact U a hna
      by_cases e : ys.getD i' 0 = ys.getD i 0
      · rw [e] at T ⊢
        refine ⟨?_, by rw [x_I_I, if_pos ⟨rfl, rfl⟩]; exact hz s' wi top t T⟩
        show g_R s11 523 _ = _
        rw [d11]
        have k1 := k_kn NM SS W hq V T
        rw [k0] at k1
        exact (Prod.ext_iff.mp (Option.some.inj k1)).1
      · have hne : i' ≠ i := fun h => e (by rw [h])
        rw [x_I_I, if_neg (fun q => e q.2)]
        show g_R s11 523 _ = _ ∧ g_I s11 587 _ = _
        rw [e11, x_R_R, if_neg (fun q => e q.2)]
        exact D i' (by omega) s' wi top t T
    have same : ∀ s' wi top t, E_tff n kd pl wd b x u0 (ys.getD i 0) s' wi top t → p0 = E_srO u0 ((b 8 + s') * 64 + 8) top (z_slt nw (z_sv x s').2.2.2.1 t wi) := fun s' wi top t T => by
      have k1 := k_kn NM SS W hq V T
      rw [k0] at k1
      exact (Prod.ext_iff.mp (Option.some.inj k1)).1
    cases hpp : p0 with
    | none =>
      refine ⟨_, by rw [hpp, if_pos rfl] at step; exact step, fin (-1) (fun s' wi top t T => ?_)⟩
      rw [(k_tx NM SS W hq T (same s' wi top t T)).1 hpp]
      rfl
    | some r =>
      have i0 := (k_tx NM SS W hq T0 hp0.symm).2 r hpp s11 V11 N11
      refine ⟨_, by rw [hpp, if_neg (Option.some_ne_none _), x_nn, i0, x_c] at step; exact step, fin _ (fun s' wi top t T => ?_)⟩
      have i1 := (k_tx NM SS W hq T (same s' wi top t T)).2 r hpp s11 V11 N11
      rw [← T.2.2.2.2.2.1, T0.2.2.2.2.2.1, i0] at i1
      exact (Prod.ext_iff.mp (Option.some.inj i1)).1
theorem k_nc (NM : z_NM n kd wd vl nw nv) (S : E_S pl wd c A O b x tc cols xs ys u0) (W : z_wqu kd q x) (hq : q ≤ n) {s5 : g_St} (V5 : E_V c tc u0 s5) (N5 : E_ns n kd nw wd b x tc u0 s5) (U5 : ∀ a, g_R s5 523 a = g_R u0 523 a) : ∃ v, f_Ch_nameColumns (some 3) s5 = some ((), v) ∧ E_V c tc u0 v ∧ E_fk [587, 1031, 1095] [523] s5 v ∧ E_nc n kd pl nw wd b x tc cols ys u0 v ∧ E_cn nw b x x.2.1.length v := by
  have hp := z_wqu_ps W hq
  have q3 := S.1.1.2.2.1
  unfold f_Ch_nameColumns
  refine z_cl x.2.1.length (fun f i s => f_Ch_nameColumns_2 f (some 3) (Int32.ofNat i) s) (fun s => some ((), s)) (fun j s => E_V c tc u0 s ∧ E_fk [1031, 1095] [] s5 s ∧ E_cn nw b x j s) (fun v => E_V c tc u0 v ∧ E_fk [587, 1031, 1095] [523] s5 v ∧ E_nc n kd pl nw wd b x tc cols ys u0 v ∧ E_cn nw b x x.2.1.length v) ?_ ?_ x.2.1.length 0 s5 200000 (by omega) (by omega) ⟨V5, E_fk.re, fun i hi => by omega⟩
  · rintro f s ⟨V, F, D⟩
    obtain ⟨v, v1, v2, v3, v4⟩ := k_nc50 NM S W hq V (N5.fk F (by decide) (by decide)) (fun a => (F.2.2 523 a (by simp)).trans (U5 a))
    refine ⟨v, ?_, v2, (F.mono (by decide) (by decide)).trans (v3.mono (by decide) (by decide)), v4, fun m hm => ?_⟩
    · show f_Ch_nameColumns_2 (f + 1) (some 3) (Int32.ofNat x.2.1.length) s = _
      rw [f_Ch_nameColumns_2, V.count S, if_pos (by rw [x_le (by omega) (by omega)]; exact Nat.le_refl _)]
      exact v1
    · rw [v3.2.1 _ _ (by decide), v3.2.1 _ _ (by decide)]; exact D m hm
  · rintro f i s hi ⟨V, F, D⟩
    obtain ⟨s8, e8⟩ : ∃ s8, s8 = g_setI s 1031 ((b 7 + i) * 64 + 7) (z_oc (z_sc nw (x.2.1.getD i z_pa0))) := ⟨_, rfl⟩
    have V8 : E_V c tc u0 s8 := by rw [e8]; exact V.pI (by decide) (by decide) _ _
    refine ⟨g_setI s8 1095 ((b 7 + i) * 64 + 7) (z_oc (z_cy nw (x.2.1.getD i z_pa0))), ?_, V8.pI (by decide) (by decide) _ _, ?_, ?_⟩
    · show f_Ch_nameColumns_2 (f + 1) (some 3) (Int32.ofNat i) s = f_Ch_nameColumns_2 f (some 3) (Int32.ofNat (i + 1)) _
      rw [f_Ch_nameColumns_2, V.count S, if_neg (by rw [x_le (by omega) (by omega)]; omega), V.part S hi, x_nn, (k_pcn NM S V hi (hp i hi)).1, x_c, x_pI, ← e8, x_nn, (k_pcn NM S V8 hi (hp i hi)).2, x_c, x_pI, x_p1]
    · rw [e8]; exact (F.pI (by decide) _ _).pI (by decide) _ _
    · intro m hm
      rw [e8]
      by_cases e : m = i
      · rw [e]
        exact ⟨by rw [x_I_I, if_neg (fun q => by have := q.1; omega), x_I_I, if_pos ⟨rfl, rfl⟩], by rw [x_I_I, if_pos ⟨rfl, rfl⟩]⟩
      · rw [x_I_I, if_neg (fun q => by have := q.1; omega), x_I_I, if_neg (fun q => by have := q.2; omega), x_I_I, if_neg (fun q => by have := q.2; omega), x_I_I, if_neg (fun q => by have := q.1; omega)]
        exact D m (by omega)
end
