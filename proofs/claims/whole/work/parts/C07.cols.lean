/-! THE ENGINE'S CHECK: columns have their meaning -/
def z_sc (nw : Nat → Nat) (X : z_Pa) : Option Nat := match X.2.2.2.2.1 with
  | none => none
  | some y => z_own1 nw X (y.2 + 3)
def z_cy (nw : Nat → Nat) (X : z_Pa) : Option Nat := match X.2.2.2.2.2 with
  | none => none
  | some y => z_own1 nw X y
theorem z_ff_no {P : Nat → Bool} : ∀ {d i : Nat}, (∀ j, i ≤ j → j < i + d → P j = false) → z_ff P d i = none := by
  intro d
  induction d with
  | zero => intro i h; rfl
  | succ d ih =>
    intro i h
    rw [z_ff, if_neg (by rw [h i (Nat.le_refl _) (by omega)]; decide)]
    exact ih (fun j h1 h2 => h j (by omega) (by omega))
theorem z_ff_cg {P R : Nat → Bool} : ∀ {d i : Nat}, (∀ j, i ≤ j → j < i + d → P j = R j) → z_ff P d i = z_ff R d i := by
  intro d
  induction d with
  | zero => intro i h; rfl
  | succ d ih =>
    intro i h
    rw [z_ff, z_ff, h i (Nat.le_refl _) (by omega), ih (fun j h1 h2 => h j (by omega) (by omega))]
section
variable {n q : Nat} {kd pl nw nv : Nat → Nat} {wd vl : Nat → Int64} {c : z_Cx} {A O : Nat} {b : Nat → Nat} {x : z_Qu} {tc : Nat} {cols : Nat → Nat} {xs ys : List Nat} {u0 : g_St}
theorem k_cna {s : g_St} {P Wd wi w : Nat} (h1 : g_I s 135 P = Int32.ofNat w) (h2 : g_R s 199 P = some Wd) (h3 : g_ln s Wd = 7) (hw : w ≤ 3) (hi : wi < 7) {f : Nat → Bool} (hf : ∀ i, i < w → (g_AL s Wd i = g_AL s Wd wi) = (f i = true)) : f_Pa_columnNamedAt (some P) (Int32.ofNat wi) s = some (z_oc (z_ff f w 0), s) := by
  have key : ∀ d i g, i + d = w → d < g → f_Pa_columnNamedAt_2 g (some P) (Int32.ofNat wi) (Int32.ofNat i) s = some (z_oc (z_ff f d i), s) := by
    intro d
    induction d with
    | zero =>
      intro i g e1 e2
      obtain ⟨g, rfl⟩ : ∃ m, g = m + 1 := ⟨g - 1, by omega⟩
      rw [f_Pa_columnNamedAt_2, x_gI, h1, if_pos (by rw [x_le (by omega) (by omega)]; omega)]
      rfl
    | succ d ih =>
      intro i g e1 e2
      obtain ⟨g, rfl⟩ : ∃ m, g = m + 1 := ⟨g - 1, by omega⟩
      rw [f_Pa_columnNamedAt_2, x_gI, h1, if_neg (by rw [x_le (by omega) (by omega)]; omega), x_gR, h2, x_aL (by omega) (by omega), x_gR, h2, x_aL (by omega) (by omega), z_ff]
      by_cases e : f i = true
      · rw [if_pos (by rw [hf i (by omega)]; exact e), if_pos e]; rfl
      · rw [if_neg (by rw [hf i (by omega)]; exact e), if_neg e, x_p1]
        exact ih (i + 1) g (by omega) (by omega)
  exact key w 0 200000 (by omega) (by omega)
theorem z_wd0 (NM : z_NM n kd wd vl nw nv) {t : Nat} (ht : z_isn n kd t) : ¬ wd t = 0 := fun e => by
  obtain ⟨w1, w2, w3, w4, w5, w6⟩ := NM.1 t ht.1 ht.2
  rw [w1, show (0 : Int64) = Int64.ofNat 0 from rfl] at e
  have := (z_i64 (a := nw t) (b := 0) (by omega) (by decide)).mp e
  omega
theorem k_pcn (NM : z_NM n kd wd vl nw nv) (S : E_S pl wd c A O b x tc cols xs ys u0) {s : g_St} (V : E_V c tc u0 s) {m : Nat} (hm : m < x.2.1.length) (hp : z_pnm n kd (x.2.1.getD m z_pa0)) : f_Pa_columnNamedAt (some ((b 7 + m) * 64 + 7)) 5 s = some (z_oc (z_sc nw (x.2.1.getD m z_pa0)), s) ∧ f_Pa_columnNamedAt (some ((b 7 + m) * 64 + 7)) 6 s = some (z_oc (z_cy nw (x.2.1.getD m z_pa0)), s) := by
  obtain ⟨⟨q1, q2, q3, q4⟩, qA, qp, qo, qe, qc, qr⟩ := S.1
  obtain ⟨-, P⟩ := qp m hm
  obtain ⟨p1, p2, p3, p4, aW, aQ, aL, p5, p6, p7, p8, p9, p10, p11, p12⟩ := P
  obtain ⟨w1, w2, w3, w4⟩ := hp
  have f1 : g_I s 135 ((b 7 + m) * 64 + 7) = Int32.ofNat (x.2.1.getD m z_pa0).2.1.length := by rw [V.I (by decide)]; exact p2.2.2.1
  have f2 : g_R s 199 ((b 7 + m) * 64 + 7) = some (aW * 64 + 21) := by rw [V.R (by decide)]; exact p6.1
  have f3 : g_ln s (aW * 64 + 21) = 7 := by rw [V.ln]; exact p7.1
  have f4 : ∀ i, i < (x.2.1.getD m z_pa0).2.1.length → g_AL s (aW * 64 + 21) i = wd ((x.2.1.getD m z_pa0).2.1.getD i 0) := fun i hi => by rw [V.AL]; exact (p8 i hi).1
  refine ⟨?_, ?_⟩
  · unfold z_sc
    cases hx : (x.2.1.getD m z_pa0).2.2.2.2.1 with
    | none =>
      rw [hx] at p10
      have := k_cna (wi := 5) f1 f2 f3 p4.1 (by decide) (f := fun _ => false) (fun i hi => by
        rw [f4 i hi, V.AL, p10.2.2.2]
        exact propext ⟨fun h => absurd h (z_wd0 NM (w2 i hi)), fun h => by cases h⟩)
      rw [show (5 : Int32) = Int32.ofNat 5 from rfl, this, z_ff_no (fun _ _ _ => rfl)]
    | some y =>
      rw [hx] at p10
      have := k_cna (wi := 5) f1 f2 f3 p4.1 (by decide) (f := fun i => decide (nw ((x.2.1.getD m z_pa0).2.1.getD i 0) = nw (y.2 + 3))) (fun i hi => by
        rw [f4 i hi, V.AL, p10.2.2.1, NM.eqE (w2 i hi) (w3 y hx).1, decide_eq_true_eq])
      rw [show (5 : Int32) = Int32.ofNat 5 from rfl, this]
      rfl
  · unfold z_cy
    cases hx : (x.2.1.getD m z_pa0).2.2.2.2.2 with
    | none =>
      rw [hx] at p11
      have := k_cna (wi := 6) f1 f2 f3 p4.1 (by decide) (f := fun _ => false) (fun i hi => by
        rw [f4 i hi, V.AL, p11.2.2]
        exact propext ⟨fun h => absurd h (z_wd0 NM (w2 i hi)), fun h => by cases h⟩)
      rw [show (6 : Int32) = Int32.ofNat 6 from rfl, this, z_ff_no (fun _ _ _ => rfl)]
    | some y =>
      rw [hx] at p11
      have := k_cna (wi := 6) f1 f2 f3 p4.1 (by decide) (f := fun i => decide (nw ((x.2.1.getD m z_pa0).2.1.getD i 0) = nw y)) (fun i hi => by
        rw [f4 i hi, V.AL, p11.2.1, NM.eqE (w2 i hi) (w4 y hx).1, decide_eq_true_eq])
      rw [show (6 : Int32) = Int32.ofNat 6 from rfl, this]
      rfl
/-- a term that names a column -/
def E_tff (n : Nat) (kd pl : Nat → Nat) (wd : Nat → Int64) (b : Nat → Nat) (x : z_Qu) (u : g_St) (a s : Nat) (wi top : Option Nat) (t : Nat) : Prop := s < (z_sels x).length ∧ g_R u 139 a = some ((b 8 + s) * 64 + 8) ∧ g_R u 203 a = top ∧ E_tp pl wd u (b 9) (some ((b 8 + s) * 64 + 8)) top wi ∧ g_L u 331 a = wd t ∧ g_L u 395 a = wd (t + 2) ∧ z_isn n kd t ∧ z_isn n kd (t + 2) ∧ ∀ w, wi = some w → z_isn n kd w ∧ z_isn n kd (w + 1)
def E_srO (u : g_St) (sel : Nat) (top sl : Option Nat) : Option Nat := match sl with
  | none => none
  | some k => if k = 3 then (match top with
      | some k' => g_R u 202 k'
      | none => none) else match g_R u 392 sel with
    | some B => g_AR u B k
    | none => none
theorem q_te.wi {y : z_Se} {wi : Option Nat} {e : Bool × Nat × Nat} (h : q_te y wi e) {w : Nat} (hw : wi = some w) : q_so y none w := by
  rcases h with ⟨h1, -⟩ | ⟨bb, h1, h2, h3⟩ | ⟨z, h1, h2, -⟩
  · rw [h1] at hw; cases hw
  · rw [h2] at hw; cases hw
  · rw [h2] at hw; cases hw; exact ⟨_, h1, rfl⟩
theorem k_tfx (Q : E_qu pl wd c u0 A O b x) (W : z_wqu kd q x) (hq : q ≤ n) {a : Nat} (h1 : b 11 ≤ a) (h2 : a < g_cnt u0 11) (h3 : g_L u0 395 (a * 64 + 11) ≠ 0) : ∃ s wi top t, E_tff n kd pl wd b x u0 (a * 64 + 11) s wi top t := by
  rcases k_ter Q h1 h2 with ⟨s, wi, top, e, s1, s2, s3, s4⟩ | ⟨y, t, y1, y2, y3⟩
  · obtain ⟨p, r, hr, hw⟩ := z_sv_w W hq s1
    obtain ⟨f1, f2, f3, f4, f5, f6, f7, f8, f9, f10, f11, f12⟩ := s3
    by_cases k2 : e.2.1 = 2
    · obtain ⟨i1, i2⟩ := s2.isn hw hr k2
      obtain ⟨g1, g2, g3⟩ := f7 k2
      exact ⟨s, wi, top, e.2.2, s1, f3, f4, s4, g1, g2, i1, i2, fun w hw' => (s2.wi hw').isn hw hr⟩
    · exact absurd (f8 k2) h3
  · obtain ⟨f1, f2, f3, f4, f5, f6, f7, f8, f9, f10, f11⟩ := y3
    obtain ⟨aa, bb, w1, w2, w3, w4, w5⟩ := W
    rw [y1] at w4
    obtain ⟨v1, v2, v3, v4⟩ := w4
    obtain ⟨p1, q1, d1, d2, d3, d4, d5, d6⟩ := v3.all _ y2
    exact ⟨z_tot x.2.1, none, none, t, by rw [z_sv_len]; omega, f3, f4, Or.inl rfl, f5, f6, ⟨by omega, d5⟩, ⟨by omega, d6⟩, fun w hw => by cases hw⟩
def z_sl3 (N : Nat → Nat) (p : Nat) (wi : Option Nat) : Option Nat := match wi with
  | none => none
  | some w => if N (w + 1) = N p then some 3 else none
def z_sl2 (N : Nat → Nat) (p : Nat) (wi o : Option Nat) : Option Nat := match o with
  | some k => some k
  | none => z_sl3 N p wi
theorem z_slt_2 (N : Nat → Nat) (srs : List Nat) (p : Nat) (wi : Option Nat) : z_slt N srs p wi = z_sl2 N p wi (z_ff (fun k => decide (N (srs.getD k 0 + 1) = N p)) srs.length 0) := by
  unfold z_slt z_sl2 z_sl3
  cases z_ff (fun k => decide (N (srs.getD k 0 + 1) = N p)) srs.length 0 with
  | some k => rfl
  | none => cases wi <;> rfl
/-- the source that a term's byname means -/
theorem k_kn (NM : z_NM n kd wd vl nw nv) (S : E_S pl wd c A O b x tc cols xs ys u0) (W : z_wqu kd q x) (hq : q ≤ n) {v : g_St} (V : E_V c tc u0 v) {a s t : Nat} {wi top : Option Nat} (T : E_tff n kd pl wd b x u0 a s wi top t) : f_Ch_knownSource (some a) v = some (E_srO u0 ((b 8 + s) * 64 + 8) top (z_slt nw (z_sv x s).2.2.2.1 t wi), v) := by
  obtain ⟨t1, t2, t3, t4, t5, t6, t7, t8, t9⟩ := T
  obtain ⟨i, k, j, s1, s2, s3⟩ := k_sel S.1 t1
  obtain ⟨e1, e2, e3, e4, e5, e6, a26, a23, a27, a28, e7, e8, e9, e10, e11, e12⟩ := s3
  obtain ⟨p, r, hr, hw⟩ := z_sv_w W hq t1
  have isn : ∀ m, m < (z_sv x s).2.2.2.1.length → z_isn n kd ((z_sv x s).2.2.2.1.getD m 0 + 1) := fun m hm => (q_so.isn (sl := some m) hw hr ⟨hm, rfl⟩).2
  have l3 := e6.2.1
  have key : ∀ d m f, m + d = (z_sv x s).2.2.2.1.length → d < f → f_Ch_knownSource_2 f (some a) (Int32.ofNat m) v = some (E_srO u0 ((b 8 + s) * 64 + 8) top (z_sl2 nw t wi (z_ff (fun k => decide (nw ((z_sv x s).2.2.2.1.getD k 0 + 1) = nw t)) d m)), v) := by
    intro d
    induction d with
    | zero =>
      intro m f h1 h2
      obtain ⟨f, rfl⟩ : ∃ m, f = m + 1 := ⟨f - 1, by omega⟩
      rw [f_Ch_knownSource_2, x_gR, V.R (by decide), t2, x_gI, V.I (by decide), e5.2.2.2.1, if_pos (by rw [x_le (by omega) (by omega)]; omega), x_gR, V.R (by decide), t3]
      show _ = some (E_srO u0 _ top (z_sl3 nw t wi), v)
      cases wi with
      | none =>
        rcases t4 with h | ⟨kk, h, g, -⟩
        · rw [h, if_pos rfl]; rfl
        · rw [h, if_neg (Option.some_ne_none _), x_gR, V.R (by decide), t3, h, x_gR, V.R (by decide), g, if_pos rfl]; rfl
      | some w =>
        obtain ⟨kk, jj, g1, g2, g3, g4, g5⟩ := t4
        rw [g1, if_neg (Option.some_ne_none _), x_gR, V.R (by decide), t3, g1, x_gR, V.R (by decide), g2, if_neg (Option.some_ne_none _), x_gR, V.R (by decide), t3, g1, x_gR, V.R (by decide), g2, x_gL, V.L, g5.2.2.2.2.2.1, x_gL, V.L, t5]
        have e := NM.eqE (t9 w rfl).2 t7
        show _ = some (E_srO u0 _ (some kk) (if nw (w + 1) = nw t then some 3 else none), v)
        by_cases y : nw (w + 1) = nw t
        · rw [if_pos (by rw [e]; exact y), x_gR, V.R (by decide), t3, g1, x_gR, V.R (by decide), if_pos y]; rfl
        · rw [if_neg (by rw [e]; exact y), if_neg y]; rfl
    | succ d ih =>
      intro m f h1 h2
      obtain ⟨f, rfl⟩ : ∃ m, f = m + 1 := ⟨f - 1, by omega⟩
      obtain ⟨g1, g2, g3⟩ := e11 m (by omega)
      rw [f_Ch_knownSource_2, x_gR, V.R (by decide), t2, x_gI, V.I (by decide), e5.2.2.2.1, if_neg (by rw [x_le (by omega) (by omega)]; omega), x_gR, V.R (by decide), t2, x_gR, V.R (by decide), e8.2.2.1, x_aR (by omega) (by rw [V.ln, e9.2.2.1]; omega), V.AR, g1, x_gL, V.L, g3.2.2.2.2.2.1, x_gL, V.L, t5, z_ff]
      have e := NM.eqE (isn m (by omega)) t7
      by_cases y : nw ((z_sv x s).2.2.2.1.getD m 0 + 1) = nw t
      · rw [if_pos (by rw [e]; exact y), x_gR, V.R (by decide), t2, x_gR, V.R (by decide), e8.2.2.1, x_aR (by omega) (by rw [V.ln, e9.2.2.1]; omega), V.AR, g1, if_pos (decide_eq_true y)]
        show _ = some (E_srO u0 _ top (some m), v)
        unfold E_srO
        simp only []
        rw [if_neg (by omega), e8.2.2.1]
        simp only []
        rw [g1]
      · rw [if_neg (by rw [e]; exact y), x_p1, if_neg (by rw [decide_eq_true_eq]; exact y)]
        exact ih (m + 1) f (by omega) (by omega)
  unfold f_Ch_knownSource
  rw [z_slt_2]
  exact key _ 0 200000 (Nat.zero_add _) (by omega)
end
