/-! THE ENGINE'S CHECK: what source names mean -/
theorem z_cl {β σ σ' : Type} (N : Nat) (K : Nat → Nat → σ → Option β) (E : σ' → Option β) (I : Nat → σ → Prop) (J : σ' → Prop)
    (hE : ∀ f u, I N u → ∃ u', K (f + 1) N u = E u' ∧ J u')
    (turn : ∀ f i u, i < N → I i u → ∃ v, K (f + 1) i u = K f (i + 1) v ∧ I (i + 1) v) :
    ∀ (d i : Nat) (u : σ) (f : Nat), i + d = N → d < f → I i u → ∃ u', K f i u = E u' ∧ J u' := by
  intro d
  induction d with
  | zero =>
    intro i u f h1 h2 h3
    obtain ⟨f, rfl⟩ : ∃ m, f = m + 1 := ⟨f - 1, by omega⟩
    rw [show i = N by omega] at h3 ⊢
    exact hE f u h3
  | succ d ih =>
    intro i u f h1 h2 h3
    obtain ⟨f, rfl⟩ : ∃ m, f = m + 1 := ⟨f - 1, by omega⟩
    obtain ⟨v, v1, v2⟩ := turn f i u (by omega) h3
    obtain ⟨u', r1, r2⟩ := ih (i + 1) v f (by omega) (by omega) v2
    exact ⟨u', v1.trans r1, r2⟩
theorem x_ii (u : g_St) (k a : Nat) (v w : Int32) : g_setI (g_setI u k a v) k a w = g_setI u k a w := by
  unfold g_setI
  congr 3
  funext k' a'
  unfold g_u2
  by_cases h : k' = k ∧ a' = a
  · rw [if_pos h, if_pos h]
  · rw [if_neg h, if_neg h]; exact if_neg h
theorem x_Iss (u : g_St) (k a : Nat) (v : Int32) : g_I (g_setI u k a v) k a = v := by rw [x_I_I, if_pos ⟨rfl, rfl⟩]
theorem x_m1 (d : Nat) : Int32.ofNat (d + 1) - 1 = Int32.ofNat d := by
  have h : Int32.ofNat (d + 1) - Int32.ofNat 1 = Int32.ofNat (d + 1 - 1) := x_sub (by omega)
  rw [show d + 1 - 1 = d by omega] at h
  exact h
theorem x_a1 (d : Nat) : Int32.ofNat d + (-1) = Int32.ofNat d - 1 := by rw [Int32.sub_eq_add_neg]
def z_KI : List Nat := [131, 195, 393, 457, 1031, 1095, 587, 775, 839, 967, 903, 454, 648, 394]
def z_KR : List Nat := [3, 67, 523]
def E_S (pl : Nat → Nat) (wd : Nat → Int64) (c : z_Cx) (A O : Nat) (b : Nat → Nat) (x : z_Qu) (tc : Nat) (cols : Nat → Nat) (xs ys : List Nat) (u : g_St) : Prop := E_qu pl wd c u A O b x ∧ (g_R u 518 c.1 = some c.2.1 ∧ g_R u 582 c.1 = some c.2.2.1) ∧ (E_li u c.2.1 xs ∧ E_li u c.2.2.1 ys) ∧ (b 9 + xs.length = g_cnt u 9 ∧ ∀ j, j < xs.length → xs.getD j 0 = (b 9 + j) * 64 + 9) ∧ (∀ a, a ∈ ys ↔ ∃ j, b 11 ≤ j ∧ j < g_cnt u 11 ∧ a = j * 64 + 11 ∧ g_L u 395 a ≠ 0) ∧ g_ln u 29 = 5 ∧ tc ≤ 5 ∧ ∀ t, t < tc → ∃ r, g_AR u 29 t = some r ∧ g_I u 5 r = Int32.ofNat (cols t) ∧ cols t ≤ 3
def E_V (c : z_Cx) (tc : Nat) (u v : g_St) : Prop := E_fk z_KI z_KR u v ∧ g_R v 3 3 = some c.1 ∧ g_R v 67 3 = some 29 ∧ g_I v 131 3 = Int32.ofNat tc
def z_ppE (m : z_Mn) : Int32 := match m with
  | some (.inl k) => Int32.ofNat k
  | _ => -1
def z_ptE (m : z_Mn) : Int32 := match m with
  | some (.inr k) => Int32.ofNat k
  | _ => -1
theorem z_i64s {w k : Nat} (hw : w < 2 ^ 48) (hk : k < 2 ^ 20) : (Int64.ofNat w - Int64.ofNat k).toInt = (w : Int) - k := by
  rw [Int64.toInt_sub, Int64.toInt_ofNat_of_lt (by omega), Int64.toInt_ofNat_of_lt (by omega), Int.bmod_eq_of_le (by omega) (by omega)]
theorem z_mtb (w : Nat) : ∀ tc, z_ff (fun k => decide (w = 29744 + k)) tc 0 = if 29744 ≤ w ∧ w < 29744 + tc then some (w - 29744) else none := by
  intro tc
  cases h : z_ff (fun k => decide (w = 29744 + k)) tc 0 with
  | some k =>
    obtain ⟨a1, a2, a3, -⟩ := z_ff_some h
    have e := of_decide_eq_true a3
    rw [if_pos ⟨by omega, by omega⟩, show w - 29744 = k by omega]
  | none =>
    have no := z_ff_none h
    rw [if_neg (fun q => by
      have := no (w - 29744) (Nat.zero_le _) (by omega)
      rw [decide_eq_true (by omega)] at this
      cases this)]
theorem z_mng_nw {N : Nat → Nat} {ps : List z_Pa} {tc t t' : Nat} (h : N t = N t') : z_mng N ps tc t = z_mng N ps tc t' := by
  unfold z_mng
  rw [h]
section
variable {n q : Nat} {kd pl nw nv : Nat → Nat} {wd vl : Nat → Int64} {c : z_Cx} {A O : Nat} {b : Nat → Nat} {x : z_Qu} {tc : Nat} {cols : Nat → Nat} {xs ys : List Nat} {u0 : g_St}
theorem E_V.pI {v : g_St} (h : E_V c tc u0 v) {k : Nat} (hk : k ∈ z_KI) (h2 : k ≠ 131) (a : Nat) (y : Int32) : E_V c tc u0 (g_setI v k a y) := ⟨h.1.pI hk a y, h.2.1, h.2.2.1, by rw [x_I_I, if_neg (fun q => h2 q.1.symm)]; exact h.2.2.2⟩
theorem E_V.pR {v : g_St} (h : E_V c tc u0 v) (a : Nat) (y : Option Nat) : E_V c tc u0 (g_setR v 523 a y) := ⟨h.1.pR (by decide) a y, by rw [x_R_R, if_neg (fun q => by have := q.1; omega)]; exact h.2.1, by rw [x_R_R, if_neg (fun q => by have := q.1; omega)]; exact h.2.2.1, h.2.2.2⟩
theorem E_V.I {v : g_St} (h : E_V c tc u0 v) {k a : Nat} (hk : k ∉ z_KI) : g_I v k a = g_I u0 k a := h.1.2.1 k a hk
theorem E_V.R {v : g_St} (h : E_V c tc u0 v) {k a : Nat} (hk : k ∉ z_KR) : g_R v k a = g_R u0 k a := h.1.2.2 k a hk
theorem E_V.L {v : g_St} (h : E_V c tc u0 v) : g_L v = g_L u0 := h.1.1.2.2.2.1
theorem E_V.AI {v : g_St} (h : E_V c tc u0 v) : g_AI v = g_AI u0 := h.1.1.2.2.2.2.1
theorem E_V.AL {v : g_St} (h : E_V c tc u0 v) : g_AL v = g_AL u0 := h.1.1.2.2.2.2.2.1
theorem E_V.AR {v : g_St} (h : E_V c tc u0 v) : g_AR v = g_AR u0 := h.1.1.2.2.2.2.2.2.1
theorem E_V.ln {v : g_St} (h : E_V c tc u0 v) : g_ln v = g_ln u0 := h.1.1.2.2.2.2.2.2.2
theorem E_V.cnt {v : g_St} (h : E_V c tc u0 v) : g_cnt v = g_cnt u0 := h.1.1.1
/-- the parts of the query, reached from the checker -/
theorem E_V.part (S : E_S pl wd c A O b x tc cols xs ys u0) {v : g_St} (h : E_V c tc u0 v) {m : Nat} (hm : m < x.2.1.length) {α : Type} (F : Option Nat → Option α) : (g_gR v 3 (some 3) fun p => g_gR v 6 p fun p' => g_aR v p' (Int32.ofNat m) F) = F (some ((b 7 + m) * 64 + 7)) := by
  obtain ⟨⟨q1, q2, q3, q4⟩, qA, qp, qo, qe, qc, qr⟩ := S.1
  rw [x_gR, h.2.1, x_gR, h.R (by decide), qA.2.2.2.1.1, x_aR (by omega) (by rw [h.ln, qA.2.2.2.2.1]; omega), h.AR, (qp m hm).1]
theorem E_V.count (S : E_S pl wd c A O b x tc cols xs ys u0) {v : g_St} (h : E_V c tc u0 v) {α : Type} (F : Int32 → Option α) : (g_gR v 3 (some 3) fun p => g_gI v 70 p F) = F (Int32.ofNat x.2.1.length) := by
  obtain ⟨⟨q1, q2, q3, q4⟩, qA, qp, qo, qe, qc, qr⟩ := S.1
  rw [x_gR, h.2.1, x_gI, h.I (by decide), q2]
theorem k_ns41 (NM : z_NM n kd wd vl nw nv) (S : E_S pl wd c A O b x tc cols xs ys u0) (hp : ∀ k, k < x.2.1.length → z_isn n kd (x.2.1.getD k z_pa0).1) (k2 : Option Nat → Int32 → g_St → Option (Unit × g_St)) {s : g_St} (V : E_V c tc u0 s) {a t : Nat} (hL : g_L u0 201 a = wd t) (ht : z_isn n kd t) (h1 : g_I s 393 a = -1) (h2 : g_I s 457 a = -1) (j : Nat) : f_Ch_nameSources_41 k2 200000 (some 3) (Int32.ofNat j) (some a) (Int32.ofNat x.2.1.length - 1) s = k2 (some 3) (Int32.ofNat (j + 1)) (g_setI (g_setI s 393 a (z_ppE (z_mng nw x.2.1 tc t))) 457 a (z_ptE (z_mng nw x.2.1 tc t))) := by
  obtain ⟨⟨q1, q2, q3, q4⟩, qA, qp, qo, qe, qc, qr⟩ := S.1
  obtain ⟨w1, w2, w3, w4, w5, w6⟩ := NM.1 t ht.1 ht.2
  have tc5 := S.2.2.2.2.2.2.1
  have key : ∀ d r f, d ≤ x.2.1.length → d < f → f_Ch_nameSources_41 k2 f (some 3) (Int32.ofNat j) (some a) (Int32.ofNat d - 1) (g_setI s 393 a (z_oc r)) = f_Ch_nameSources_41 k2 1 (some 3) (Int32.ofNat j) (some a) (Int32.ofNat 0 - 1) (g_setI s 393 a (z_oc (match z_ff (fun k => decide (nw (x.2.1.getD k z_pa0).1 = nw t)) d 0 with | some k => some k | none => r))) := by
    intro d
    induction d with
    | zero =>
      intro r f e1 e2
      obtain ⟨f, rfl⟩ : ∃ m, f = m + 1 := ⟨f - 1, by omega⟩
      rw [f_Ch_nameSources_41, f_Ch_nameSources_41, if_pos (by decide), if_pos (by decide)]
      rfl
    | succ d ih =>
      intro r f e1 e2
      obtain ⟨f, rfl⟩ : ∃ m, f = m + 1 := ⟨f - 1, by omega⟩
      have V' : E_V c tc u0 (g_setI s 393 a (z_oc r)) := V.pI (by decide) (by decide) _ _
      have pd := hp d (by omega)
      obtain ⟨-, P⟩ := qp d (by omega)
      rw [f_Ch_nameSources_41, x_m1, if_neg (show ¬ Int32.ofNat d < 0 from by rw [show (0 : Int32) = Int32.ofNat 0 from rfl, x_lt (by omega) (by omega)]; omega), V'.part S (by omega), x_gL, V'.L, P.2.1.1, x_gL, V'.L, hL, z_ff_snoc]
      have e := NM.eqE pd ht
      have em := x_a1 d
      by_cases w : nw (x.2.1.getD d z_pa0).1 = nw t
      · rw [if_pos (by rw [e]; exact w), x_pI, x_ii, em]
        have := ih (some d) f (by omega) (by omega)
        refine this.trans ?_
        cases z_ff (fun k => decide (nw (x.2.1.getD k z_pa0).1 = nw t)) d 0 with
        | some k => rfl
        | none => simp only [Nat.zero_add]; rw [if_pos (decide_eq_true w)]
      · rw [if_neg (by rw [e]; exact w), em]
        have := ih r f (by omega) (by omega)
        refine this.trans ?_
        cases z_ff (fun k => decide (nw (x.2.1.getD k z_pa0).1 = nw t)) d 0 with
        | some k => rfl
        | none => simp only [Nat.zero_add]; rw [if_neg (by rw [decide_eq_true_eq]; exact w)]
  have k0 := key x.2.1.length none 200000 (Nat.le_refl _) (by omega)
  rw [show z_oc none = -1 from rfl, x_setI_same h1] at k0
  rw [k0]
  have fin : ∀ r : Option Nat, (∀ k, r = some k → k < 4) → f_Ch_nameSources_41 k2 1 (some 3) (Int32.ofNat j) (some a) (Int32.ofNat 0 - 1) (g_setI s 393 a (z_oc r)) = k2 (some 3) (Int32.ofNat (j + 1)) (g_setI (g_setI s 393 a (z_oc r)) 457 a (match r with | some _ => -1 | none => z_oc (z_ff (fun k => decide (nw t = 29744 + k)) tc 0))) := by
    intro r hr
    have V' : E_V c tc u0 (g_setI s 393 a (z_oc r)) := V.pI (by decide) (by decide) _ _
    have h2' : g_I (g_setI s 393 a (z_oc r)) 457 a = -1 := by rw [x_I_I, if_neg (fun q => by have := q.1; omega)]; exact h2
    rw [f_Ch_nameSources_41, if_pos (by decide), x_gL, V'.L, hL, w1, x_gI, x_Iss, x_p1]
    cases r with
    | some k =>
      have := hr k rfl
      rw [if_pos (show (0 : Int32) ≤ z_oc (some k) from by show (0 : Int32) ≤ Int32.ofNat k; rw [show (0 : Int32) = Int32.ofNat 0 from rfl, x_le (by omega) (by omega)]; omega)]
      show _ = k2 _ _ (g_setI _ 457 a (-1))
      rw [x_setI_same h2']
    | none =>
      rw [if_neg (show ¬ (0 : Int32) ≤ z_oc none from by decide), show (29744 : Int64) = Int64.ofNat 29744 from rfl]
      have ei := z_i64s (k := 29744) (show nw t < 2 ^ 48 by omega) (by decide)
      show _ = k2 _ _ (g_setI _ 457 a (z_oc (z_ff (fun k => decide (nw t = 29744 + k)) tc 0)))
      rw [z_mtb]
      by_cases w : 29744 ≤ nw t
      · rw [if_neg (by rw [Int64.lt_iff_toInt_lt, ei, Int64.toInt_zero]; omega), x_gI, V'.2.2.2, z_toI64 (by omega)]
        have et : (Int64.ofNat tc ≤ Int64.ofNat (nw t) - Int64.ofNat 29744) = (tc ≤ nw t - 29744) := by
          rw [Int64.le_iff_toInt_le, ei, Int64.toInt_ofNat_of_lt (by omega)]
          exact propext ⟨fun h => by omega, fun h => by omega⟩
        by_cases w2 : nw t < 29744 + tc
        · rw [if_neg (by rw [et]; omega), x_pI, if_pos ⟨w, w2⟩, ← Int64.ofNat_sub _ _ w]
          have e3 : nw t - 29744 = 0 ∨ nw t - 29744 = 1 ∨ nw t - 29744 = 2 ∨ nw t - 29744 = 3 ∨ nw t - 29744 = 4 := by omega
          rcases e3 with e | e | e | e | e <;> (rw [e]; rfl)
        · rw [if_pos (by rw [et]; omega), if_neg (by omega), x_setI_same (show g_I (g_setI s 393 a (z_oc none)) 457 a = z_oc none from h2')]
      · rw [if_pos (by rw [Int64.lt_iff_toInt_lt, ei, Int64.toInt_zero]; omega), if_neg (by omega), x_setI_same (show g_I (g_setI s 393 a (z_oc none)) 457 a = z_oc none from h2')]
  rw [fin _ (fun k hk => by
    cases hz : z_ff (fun k => decide (nw (x.2.1.getD k z_pa0).1 = nw t)) x.2.1.length 0 with
    | some y => rw [hz] at hk; cases hk; have := (z_ff_some hz).2.1; omega
    | none => rw [hz] at hk; cases hk)]
  unfold z_mng
  cases z_ff (fun k => decide (nw (x.2.1.getD k z_pa0).1 = nw t)) x.2.1.length 0 with
  | some k => rfl
  | none =>
    simp only []
    cases z_ff (fun k => decide (nw t = 29744 + k)) tc 0 with
    | some k => rfl
    | none => rfl
/-- source names have their meaning -/
def E_ns (n : Nat) (kd nw : Nat → Nat) (wd : Nat → Int64) (b : Nat → Nat) (x : z_Qu) (tc : Nat) (u v : g_St) : Prop := ∀ a t, b 9 ≤ a → a < g_cnt u 9 → g_L u 201 (a * 64 + 9) = wd t → z_isn n kd t → g_I v 393 (a * 64 + 9) = z_ppE (z_mng nw x.2.1 tc t) ∧ g_I v 457 (a * 64 + 9) = z_ptE (z_mng nw x.2.1 tc t)
theorem k_ns (NM : z_NM n kd wd vl nw nv) (S : E_S pl wd c A O b x tc cols xs ys u0) (W : z_wqu kd q x) (hq : q ≤ n) {s3 : g_St} (V3 : E_V c tc u0 s3) (h0 : ∀ a, b 9 ≤ a → a < g_cnt u0 9 → g_I s3 393 (a * 64 + 9) = -1 ∧ g_I s3 457 (a * 64 + 9) = -1) : ∃ v, f_Ch_nameSources (some 3) s3 = some ((), v) ∧ E_V c tc u0 v ∧ E_fk [393, 457] [] s3 v ∧ E_ns n kd nw wd b x tc u0 v := by
  have hp := z_ps_isn W hq
  obtain ⟨Q, ⟨r1, r2⟩, ⟨l1, l2⟩, ⟨x1, x2⟩, y1, t1, t2, t3⟩ := S
  have SS : E_S pl wd c A O b x tc cols xs ys u0 := ⟨Q, ⟨r1, r2⟩, ⟨l1, l2⟩, ⟨x1, x2⟩, y1, t1, t2, t3⟩
  have hl := l1.len
  unfold f_Ch_nameSources
  have main := z_cl xs.length (fun f i s => f_Ch_nameSources_2 f (some 3) (Int32.ofNat i) s) (fun s => some ((), s)) (fun j s => E_V c tc u0 s ∧ E_fk [393, 457] [] s3 s ∧ (∀ a t, b 9 ≤ a → a < b 9 + j → g_L u0 201 (a * 64 + 9) = wd t → z_isn n kd t → g_I s 393 (a * 64 + 9) = z_ppE (z_mng nw x.2.1 tc t) ∧ g_I s 457 (a * 64 + 9) = z_ptE (z_mng nw x.2.1 tc t)) ∧ ∀ a, b 9 + j ≤ a → a < g_cnt u0 9 → g_I s 393 (a * 64 + 9) = -1 ∧ g_I s 457 (a * 64 + 9) = -1) (fun v => E_V c tc u0 v ∧ E_fk [393, 457] [] s3 v ∧ E_ns n kd nw wd b x tc u0 v) ?_ ?_ xs.length 0 s3 200000 (by omega) (by omega) ⟨V3, E_fk.re, fun a t h1 h2 => by omega, fun a h1 h2 => h0 a (by omega) h2⟩
  · exact main
  · rintro f s ⟨V, F, D, -⟩
    refine ⟨s, ?_, V, F, fun a t h1 h2 h3 h4 => D a t h1 (by omega) h3 h4⟩
    show f_Ch_nameSources_2 (f + 1) (some 3) (Int32.ofNat xs.length) s = _
    rw [f_Ch_nameSources_2, x_gR, V.2.1, x_gR, V.R (by decide), r1, x_nn, k_size (l1.fk V.1 (by decide) (by decide)), x_c, if_pos (by rw [x_le (by omega) (by omega)]; exact Nat.le_refl _)]
  · rintro f i s hi ⟨V, F, D, N⟩
    have li := l1.fk V.1 (by decide) (by decide)
    obtain ⟨sx, sl, t, d1, d2, d3⟩ := k_src9 Q (a := b 9 + i) (by omega) (by omega)
    obtain ⟨p, r, hr, hw⟩ := z_sv_w W hq d1
    have isn := (d2.isn hw hr).1
    obtain ⟨n1, n2⟩ := N (b 9 + i) (by omega) (by omega)
    refine ⟨g_setI (g_setI s 393 ((b 9 + i) * 64 + 9) (z_ppE (z_mng nw x.2.1 tc t))) 457 ((b 9 + i) * 64 + 9) (z_ptE (z_mng nw x.2.1 tc t)), ?_, (V.pI (by decide) (by decide) _ _).pI (by decide) (by decide) _ _, (F.pI (by decide) _ _).pI (by decide) _ _, ?_, ?_⟩
    · show f_Ch_nameSources_2 (f + 1) (some 3) (Int32.ofNat i) s = f_Ch_nameSources_2 f (some 3) (Int32.ofNat (i + 1)) _
      rw [f_Ch_nameSources_2, x_gR, V.2.1, x_gR, V.R (by decide), r1, x_nn, k_size li, x_c, if_neg (by rw [x_le (by omega) (by omega)]; omega), x_gR, V.2.1, x_gR, V.R (by decide), r1, x_nn, k_get li hi, x_c, x2 i hi, x_castS (by omega), V.count SS]
      exact k_ns41 NM SS hp _ V d3.2.2.2.1 isn n1 n2 i
    · intro a t' h1 h2 h3 h4
      by_cases e : a = b 9 + i
      · rw [e] at h3 ⊢
        have : nw t = nw t' := by
          rw [← NM.eqE isn h4, ← h3]; exact d3.2.2.2.1.symm
        rw [← z_mng_nw (N := nw) (ps := x.2.1) (tc := tc) this]
        exact ⟨by rw [x_I_I, if_neg (fun q => by have := q.1; omega), x_I_I, if_pos ⟨rfl, rfl⟩], by rw [x_I_I, if_pos ⟨rfl, rfl⟩]⟩
      · rw [x_I_I, if_neg (fun q => by have := q.1; omega), x_I_I, if_neg (fun q => by have := q.2; omega), x_I_I, if_neg (fun q => by have := q.2; omega), x_I_I, if_neg (fun q => by have := q.1; omega)]
        exact D a t' h1 (by omega) h3 h4
    · intro a h1 h2
      rw [x_I_I, if_neg (fun q => by have := q.1; omega), x_I_I, if_neg (fun q => by have := q.2; omega), x_I_I, if_neg (fun q => by have := q.2; omega), x_I_I, if_neg (fun q => by have := q.1; omega)]
      exact N a (by omega) h2
end
