/-! THE ENGINE'S CHECK: faults 2 at columns, faults 5 -/
section
variable {n q : Nat} {kd pl nw nv : Nat → Nat} {wd vl : Nat → Int64} {c : z_Cx} {A O : Nat} {b : Nat → Nat} {x : z_Qu} {tc : Nat} {cols : Nat → Nat} {xs ys : List Nat} {u0 : g_St}
theorem z_tbad_oc {o : Bool} {cl : Option Nat} (h : ∀ i, cl = some i → i ≤ 4) : z_tbad o cl = true ↔ (z_oc cl < 0 ∨ (z_oc cl = 4 ∧ o = false)) := by
  cases cl with
  | none => exact ⟨fun _ => Or.inl (by decide), fun _ => rfl⟩
  | some i =>
    have hi := h i rfl
    show (decide (i = 4) && !o) = true ↔ _
    rw [Bool.and_eq_true, decide_eq_true_eq, show z_oc (some i) = Int32.ofNat i from rfl]
    have e4 : (Int32.ofNat i = 4) = (i = 4) := x_eq (b := 4) (by omega) (by decide)
    have e0 : ¬ Int32.ofNat i < 0 := by rw [show (0 : Int32) = Int32.ofNat 0 from rfl, x_lt (by omega) (by omega)]; omega
    rw [e4]
    constructor
    · rintro ⟨h1, h2⟩
      exact Or.inr ⟨h1, by cases o with | true => cases h2 | false => rfl⟩
    · rintro (h1 | ⟨h1, h2⟩)
      · exact absurd h1 e0
      · exact ⟨h1, by rw [h2]; rfl⟩
theorem z_tcl_le (S : E_S pl wd c A O b x tc cols xs ys u0) {srs : List Nat} {wi : Option Nat} {t i : Nat} (h : z_tcl nw x.2.1 tc cols srs wi t = some i) : i ≤ 4 := by
  have tb := S.2.2.2.2.2.2.2
  have qp := S.1.2.2.1
  unfold z_tcl at h
  obtain ⟨m1, m2⟩ := z_tmn_lt (N := nw) (ps := x.2.1) (tc := tc) (srs := srs) (wi := wi) (sl := z_slt nw srs t wi)
  generalize z_tmn nw x.2.1 tc srs wi (z_slt nw srs t wi) = m at h m1 m2
  cases m with
  | none => cases h
  | some mm =>
    cases mm with
    | inl k => exact z_pcl_le (qp k (m1 k rfl)).2.2.2.2.1.1 h
    | inr k =>
      obtain ⟨r, -, -, r3⟩ := tb k (m2 k rfl)
      have := (z_ff_some h).2.1
      omega
/-- a term that names a column, as it is looked at -/
def E_tl (n : Nat) (kd pl : Nat → Nat) (wd : Nat → Int64) (b : Nat → Nat) (x : z_Qu) (u : g_St) (a : Nat) (o : Bool) (s : Nat) (wi : Option Nat) (t : Nat) : Prop := (∃ top, E_tff n kd pl wd b x u a s wi top t) ∧ g_I u 459 a = z_g o ∧ g_I u 75 a = Int32.ofNat (pl t)
/-- what the tree says of it -/
def q_tl (x : z_Qu) (o : Bool) (s : Nat) (wi : Option Nat) (t : Nat) : Prop := (o = false ∧ s < (z_sels x).length ∧ ∃ e, q_te (z_sv x s).2 wi e ∧ e.2.1 = 2 ∧ e.2.2 = t) ∨ (o = true ∧ s = z_tot x.2.1 ∧ wi = none ∧ ∃ y, x.2.2.2 = some y ∧ t ∈ y.2)
theorem k_tl (Q : E_qu pl wd c u0 A O b x) (W : z_wqu kd q x) (hq : q ≤ n) {a : Nat} (h1 : b 11 ≤ a) (h2 : a < g_cnt u0 11) (h3 : g_L u0 395 (a * 64 + 11) ≠ 0) : ∃ o s wi t, E_tl n kd pl wd b x u0 (a * 64 + 11) o s wi t ∧ q_tl x o s wi t := by
  rcases k_ter Q h1 h2 with ⟨s, wi, top, e, s1, s2, s3, s4⟩ | ⟨y, t, y1, y2, y3⟩
  · obtain ⟨p, r, hr, hw⟩ := z_sv_w W hq s1
    obtain ⟨f1, f2, f3, f4, f5, f6, f7, f8, f9, f10, f11, f12⟩ := s3
    by_cases k2 : e.2.1 = 2
    · obtain ⟨i1, i2⟩ := s2.isn hw hr k2
      obtain ⟨g1, g2, g3⟩ := f7 k2
      exact ⟨false, s, wi, e.2.2, ⟨⟨top, s1, f3, f4, s4, g1, g2, i1, i2, fun w hw' => (s2.wi hw').isn hw hr⟩, f11, f2⟩, Or.inl ⟨rfl, s1, e, s2, k2, rfl⟩⟩
    · exact absurd (f8 k2) h3
  · obtain ⟨f1, f2, f3, f4, f5, f6, f7, f8, f9, f10, f11⟩ := y3
    obtain ⟨aa, bb, w1, w2, w3, w4, w5⟩ := W
    rw [y1] at w4
    obtain ⟨v1, v2, v3, v4⟩ := w4
    obtain ⟨p1, q1, d1, d2, d3, d4, d5, d6⟩ := v3.all _ y2
    exact ⟨true, z_tot x.2.1, none, t, ⟨⟨none, by rw [z_sv_len]; omega, f3, f4, Or.inl rfl, f5, f6, ⟨by omega, d5⟩, ⟨by omega, d6⟩, fun w hw => by cases hw⟩, f10, f2⟩, Or.inr ⟨rfl, rfl, rfl, y, y1, y2⟩⟩
theorem k_tl' (Q : E_qu pl wd c u0 A O b x) (W : z_wqu kd q x) (hq : q ≤ n) (NM : z_NM n kd wd vl nw nv) {o : Bool} {s t : Nat} {wi : Option Nat} (h : q_tl x o s wi t) : ∃ a, b 11 ≤ a ∧ a < g_cnt u0 11 ∧ g_L u0 395 (a * 64 + 11) ≠ 0 ∧ E_tl n kd pl wd b x u0 (a * 64 + 11) o s wi t := by
  rcases h with ⟨h0, h1, e, h2, h3, h4⟩ | ⟨h0, h1, h2, y, h3, h4⟩
  · obtain ⟨p, r, hr, hw⟩ := z_sv_w W hq h1
    obtain ⟨a, top, a1, a2, a3, a4⟩ := k_ter' Q h1 h2
    obtain ⟨f1, f2, f3, f4, f5, f6, f7, f8, f9, f10, f11, f12⟩ := a3
    obtain ⟨i1, i2⟩ := h2.isn hw hr h3
    obtain ⟨g1, g2, g3⟩ := f7 h3
    rw [h4] at f2 i1 i2 g1 g2
    refine ⟨a, a1, a2, by rw [g2]; exact z_wd0 NM i2, ⟨top, h1, f3, f4, a4, g1, g2, i1, i2, fun w hw' => (h2.wi hw').isn hw hr⟩, by rw [h0]; exact f11, f2⟩
  · have qr := Q.2.2.2.2.2.2
    rw [h3] at qr
    obtain ⟨r1, r2, r3, r4, r5⟩ := qr
    obtain ⟨m, m1, m2⟩ := z_mgd 0 h4
    obtain ⟨g1, g2, g3⟩ := r5 m m1
    rw [m2] at g3
    obtain ⟨f1, f2, f3, f4, f5, f6, f7, f8, f9, f10, f11⟩ := g3
    obtain ⟨aa, bb, w1, w2, w3, w4, w5⟩ := W
    rw [h3] at w4
    obtain ⟨v1, v2, v3, v4⟩ := w4
    obtain ⟨p1, q1, d1, d2, d3, d4, d5, d6⟩ := v3.all _ h4
    have i2 : z_isn n kd (t + 2) := ⟨by omega, d6⟩
    refine ⟨_, by omega, g2, by rw [f6]; exact z_wd0 NM i2, ⟨none, by rw [h1, z_sv_len]; omega, by rw [h1]; exact f3, f4, by rw [h2]; exact Or.inl rfl, f5, f6, ⟨by omega, d5⟩, i2, fun w hw => by rw [h2] at hw; cases hw⟩, by rw [h0]; exact f10, f2⟩
theorem k_lc (NM : z_NM n kd wd vl nw nv) (hpl : ∀ i, i ≤ n → pl i ≤ 400) (S : E_S pl wd c A O b x tc cols xs ys u0) (W : z_wqu kd q x) (hq : q ≤ n) {v : g_St} (D : E_D n kd pl nw wd c b x tc cols xs ys u0 v) {s : g_St} {Z : Nat → Prop} (hs : E_fk [195] [] v s) (hS : E_lo s Z) : ∃ s', f_Ch_lookAtColumns (some 3) s = some ((), s') ∧ E_fk [195] [] v s' ∧ E_lo s' (fun y => Z y ∨ ∃ o s wi t, q_tl x o s wi t ∧ z_tbad o (z_tcl nw x.2.1 tc cols (z_sv x s).2.2.2.1 wi t) = true ∧ y = pl t) := by
  obtain ⟨Q, ⟨r1, r2⟩, ⟨l1, l2⟩, ⟨x1, x2⟩, y1, t1, t2, t3⟩ := S
  have SS : E_S pl wd c A O b x tc cols xs ys u0 := ⟨Q, ⟨r1, r2⟩, ⟨l1, l2⟩, ⟨x1, x2⟩, y1, t1, t2, t3⟩
  have hl := l2.len
  unfold f_Ch_lookAtColumns
  obtain ⟨s', m1, m2, m3⟩ := k_lk ys.length (fun f i s => f_Ch_lookAtColumns_2 f (some 3) (Int32.ofNat i) s) (fun s => some ((), s)) v (fun i y => ∃ o s wi t, E_tl n kd pl wd b x u0 (ys.getD i 0) o s wi t ∧ z_tbad o (z_tcl nw x.2.1 tc cols (z_sv x s).2.2.2.1 wi t) = true ∧ y = pl t) (fun f s hs => by
      have V := (D.fk hs.w195).1
      show f_Ch_lookAtColumns_2 (f + 1) (some 3) (Int32.ofNat ys.length) s = _
      rw [f_Ch_lookAtColumns_2, x_gR, V.2.1, x_gR, V.R (by decide), r2, x_nn, k_size (l2.fk V.1 (by decide) (by decide)), x_c, if_pos (by rw [x_le (by omega) (by omega)]; exact Nat.le_refl _)])
    (fun f i s T hi hs hT => by
      have Ds := D.fk hs.w195
      have V := Ds.1
      have li := l2.fk V.1 (by decide) (by decide)
      have ha : ys.getD i 0 ∈ ys := z_getD_m hi
      obtain ⟨ja, ja1, ja2, ja3, ja4⟩ := (y1 _).mp ha
      rw [ja3] at ja4
      obtain ⟨o, s0, wi, t, tl, -⟩ := k_tl (n := n) Q W hq ja1 ja2 ja4
      rw [← ja3] at tl
      obtain ⟨⟨top, T0⟩, c1, c2⟩ := tl
      obtain ⟨-, ix⟩ := Ds.2.2.1.1 _ ha s0 wi top t T0
      have pt := hpl t (by have := T0.2.2.2.2.2.2.1.1; omega)
      have bo := z_tbad_oc (o := o) (cl := z_tcl nw x.2.1 tc cols (z_sv x s0).2.2.2.1 wi t) (fun i e => z_tcl_le SS e)
      have fin : ∀ wr : Bool, (wr = true ↔ z_tbad o (z_tcl nw x.2.1 tc cols (z_sv x s0).2.2.2.1 wi t) = true) → ∃ s', f_Ch_lookAtColumns_59 (f_Ch_lookAtColumns_2 f) (some 3) (Int32.ofNat i) (some (ys.getD i 0)) (some 3) (z_g wr) s = f_Ch_lookAtColumns_2 f (some 3) (Int32.ofNat (i + 1)) s' ∧ E_fk [195] [] v s' ∧ E_lo s' (fun y => T y ∨ ∃ o s wi t, E_tl n kd pl wd b x u0 (ys.getD i 0) o s wi t ∧ z_tbad o (z_tcl nw x.2.1 tc cols (z_sv x s).2.2.2.1 wi t) = true ∧ y = pl t) := by
        intro wr hw
        obtain ⟨s', d1, d2, d3⟩ := k_nt hT wr (z := Int32.ofNat (pl t)) (p := pl t) (fun _ => ⟨rfl, pt⟩)
        refine ⟨s', ?_, hs.trans d2, d3.iff (fun y => ?_)⟩
        · unfold f_Ch_lookAtColumns_59
          rw [x_gI, V.I (by decide), c2, x_nn, d1, x_c, x_p1]
        · constructor
          · rintro (h | ⟨h1, h2⟩)
            · exact Or.inl h
            · exact Or.inr ⟨o, s0, wi, t, ⟨⟨top, T0⟩, c1, c2⟩, hw.mp h1, h2⟩
          · rintro (h | ⟨o', s', wi', t', ⟨⟨top', T'⟩, c1', c2'⟩, h2, h3⟩)
            · exact Or.inl h
            · obtain ⟨-, ix'⟩ := Ds.2.2.1.1 _ ha s' wi' top' t' T'
              have pt' := hpl t' (by have := T'.2.2.2.2.2.2.1.1; omega)
              have eo : o' = o := by
                have e := c1'.symm.trans c1
                cases o <;> cases o' <;> first | rfl | exact absurd e (by decide)
              have ep : pl t' = pl t := by
                have e := c2'.symm.trans c2
                rw [x_eq (by omega) (by omega)] at e
                exact e
              rw [z_tbad_oc (fun i e => z_tcl_le SS e), ← ix', ix, eo, ← bo, ← hw] at h2
              exact Or.inr ⟨h2, by rw [h3, ep]⟩
      show ∃ s', f_Ch_lookAtColumns_2 (f + 1) (some 3) (Int32.ofNat i) s = _ ∧ _
      rw [f_Ch_lookAtColumns_2, x_gR, V.2.1, x_gR, V.R (by decide), r2, x_nn, k_size li, x_c, if_neg (by rw [x_le (by omega) (by omega)]; omega), x_gR, V.2.1, x_gR, V.R (by decide), r2, x_nn, k_get li hi, x_c, x_castS (by rw [ja3]; omega), x_gI, ix, x_gI, ix, x_gI, V.I (by decide), c1]
      by_cases w1 : z_oc (z_tcl nw x.2.1 tc cols (z_sv x s0).2.2.2.1 wi t) < 0
      · rw [if_pos w1]
        exact fin true ⟨fun _ => bo.mpr (Or.inl w1), fun _ => rfl⟩
      · rw [if_neg w1]
        by_cases w2 : z_oc (z_tcl nw x.2.1 tc cols (z_sv x s0).2.2.2.1 wi t) = 4
        · rw [if_pos w2]
          cases o with
          | false =>
            rw [if_pos (show z_g false = 0 from rfl)]
            exact fin true ⟨fun _ => bo.mpr (Or.inr ⟨w2, rfl⟩), fun _ => rfl⟩
          | true =>
            rw [if_neg (show ¬ z_g true = 0 from by decide)]
            exact fin false ⟨fun h => (by cases h), fun h => by rcases bo.mp h with h | h; exact absurd h w1; cases h.2⟩
        · rw [if_neg w2]
          exact fin false ⟨fun h => (by cases h), fun h => by rcases bo.mp h with h | h; exact absurd h w1; exact absurd h.1 w2⟩)
    (f := 200000) (by omega) hs hS
  refine ⟨s', m1, m2, m3.iff (fun y => ?_)⟩
  constructor
  · rintro (h | ⟨i, hi, o, s, wi, t, h1, h2, h3⟩)
    · exact Or.inl h
    · have ha : ys.getD i 0 ∈ ys := z_getD_m hi
      obtain ⟨ja, ja1, ja2, ja3, ja4⟩ := (y1 _).mp ha
      rw [ja3] at ja4
      obtain ⟨o', s', wi', t', tl, qt⟩ := k_tl (n := n) Q W hq ja1 ja2 ja4
      rw [← ja3] at tl
      obtain ⟨⟨top, T0⟩, c1, c2⟩ := h1
      obtain ⟨⟨top', T'⟩, c1', c2'⟩ := tl
      obtain ⟨-, ix⟩ := D.2.2.1.1 _ ha s wi top t T0
      obtain ⟨-, ix'⟩ := D.2.2.1.1 _ ha s' wi' top' t' T'
      have pt := hpl t (by have := T0.2.2.2.2.2.2.1.1; omega)
      have pt' := hpl t' (by have := T'.2.2.2.2.2.2.1.1; omega)
      have eo : o' = o := by
        have e := c1'.symm.trans c1
        cases o <;> cases o' <;> first | rfl | exact absurd e (by decide)
      have ep : pl t' = pl t := by
        have e := c2'.symm.trans c2
        rw [x_eq (by omega) (by omega)] at e
        exact e
      rw [z_tbad_oc (fun i e => z_tcl_le SS e), ← ix, ix', ← eo, ← z_tbad_oc (fun i e => z_tcl_le SS e)] at h2
      exact Or.inr ⟨o', s', wi', t', qt, h2, by rw [h3, ep]⟩
  · rintro (h | ⟨o, s, wi, t, h1, h2, h3⟩)
    · exact Or.inl h
    · obtain ⟨a, a1, a2, a3, a4⟩ := k_tl' (nw := nw) (nv := nv) (vl := vl) Q W hq NM h1
      have ha : a * 64 + 11 ∈ ys := (y1 _).mpr ⟨a, a1, a2, rfl, a3⟩
      obtain ⟨i, i1, i2⟩ := z_mgd 0 ha
      exact Or.inr ⟨i, i1, o, s, wi, t, by rw [i2]; exact a4, h2, h3⟩
/-- faults 5 -/
theorem k_lb (NM : z_NM n kd wd vl nw nv) (hpl : ∀ i, i ≤ n → pl i ≤ 400) (S : E_S pl wd c A O b x tc cols xs ys u0) (W : z_wqu kd q x) (hq : q ≤ n) {v : g_St} (D : E_D n kd pl nw wd c b x tc cols xs ys u0 v) {s : g_St} {Z : Nat → Prop} (hs : E_fk [195] [] v s) (hS : E_lo s Z) : ∃ s', f_Ch_lookForBarred (some 3) s = some ((), s') ∧ E_fk [195] [] v s' ∧ E_lo s' (fun y => Z y ∨ ∃ s sl t, s < (z_sels x).length ∧ q_so (z_sv x s).2 sl t ∧ (sl = none ∨ 0 < z_gc (z_sv x s).2.2.1) ∧ z_nown nw x tc (z_sv x s).1 t = true ∧ y = pl t) := by
  obtain ⟨Q, ⟨r1, r2⟩, ⟨l1, l2⟩, ⟨x1, x2⟩, y1, t1, t2, t3⟩ := S
  have SS : E_S pl wd c A O b x tc cols xs ys u0 := ⟨Q, ⟨r1, r2⟩, ⟨l1, l2⟩, ⟨x1, x2⟩, y1, t1, t2, t3⟩
  have hl := l1.len
  have q3 := Q.1.2.2.1
  unfold f_Ch_lookForBarred
  obtain ⟨s', m1, m2, m3⟩ := k_lk xs.length (fun f i s => f_Ch_lookForBarred_2 f (some 3) (Int32.ofNat i) s) (fun s => some ((), s)) v (fun i y => ∃ s sl t, s < (z_sels x).length ∧ q_so (z_sv x s).2 sl t ∧ E_so pl wd u0 (b 9 + i) (some ((b 8 + s) * 64 + 8)) (z_oc sl) t ∧ (sl = none ∨ 0 < z_gc (z_sv x s).2.2.1) ∧ z_nown nw x tc (z_sv x s).1 t = true ∧ y = pl t) (fun f s hs => by
      have V := (D.fk hs.w195).1
      show f_Ch_lookForBarred_2 (f + 1) (some 3) (Int32.ofNat xs.length) s = _
      rw [f_Ch_lookForBarred_2, x_gR, V.2.1, x_gR, V.R (by decide), r1, x_nn, k_size (l1.fk V.1 (by decide) (by decide)), x_c, if_pos (by rw [x_le (by omega) (by omega)]; exact Nat.le_refl _)])
    (fun f i s T hi hs hT => by
      have Ds := D.fk hs.w195
      have V := Ds.1
      have li := l1.fk V.1 (by decide) (by decide)
      obtain ⟨sx, sl, t, d1, d2, d3⟩ := k_src9 Q (a := b 9 + i) (by omega) (by omega)
      obtain ⟨p, rr, hr, hw⟩ := z_sv_w W hq d1
      have isn := (d2.isn hw hr)
      obtain ⟨ii, kk, jj, s1, s2, s3⟩ := k_sel Q d1
      have l3 := s3.2.2.2.2.2.1
      have pt := hpl t (by have := isn.1.1; omega)
      have slt : ∀ m, sl = some m → m < 2 ^ 31 := fun m e => by rw [e] at d2; have := d2.1; omega
      have ev := k_own SS W hq V Ds.2.1 Ds.2.2.2.2.2.1 Ds.2.2.2.2.2.2.1 (a := b 9 + i) (by omega) (by omega) d1 d2 d3
      have inn := k_inn (s := s) (a := (b 9 + i) * 64 + 9) (sl := sl) (by rw [V.I (by decide)]; exact d3.2.1) slt
      have gcl : z_gc (z_sv x sx).2.2.1 ≤ 4 := by
        have : ∀ l : List z_It, z_gc l ≤ l.length := by
          intro l
          induction l with
          | nil => exact Nat.le_refl _
          | cons y l ih =>
            have : z_gc (y :: l) = (if y.1 = 0 then 0 else 1) + z_gc l := by unfold z_gc; rw [List.map_cons, List.sum_cons]
            rw [this, List.length_cons]
            split <;> omega
        have := this (z_sv x sx).2.2.1
        omega
      have fin : ∀ wr : Bool, (wr = true ↔ ((sl = none ∨ 0 < z_gc (z_sv x sx).2.2.1) ∧ z_nown nw x tc (z_sv x sx).1 t = true)) → ∃ s', f_Ch_lookForBarred_72 (f_Ch_lookForBarred_2 f) (some 3) (Int32.ofNat i) (some ((b 9 + i) * 64 + 9)) (some 3) (z_g wr) s = f_Ch_lookForBarred_2 f (some 3) (Int32.ofNat (i + 1)) s' ∧ E_fk [195] [] v s' ∧ E_lo s' (fun y => T y ∨ ∃ s sl t, s < (z_sels x).length ∧ q_so (z_sv x s).2 sl t ∧ E_so pl wd u0 (b 9 + i) (some ((b 8 + s) * 64 + 8)) (z_oc sl) t ∧ (sl = none ∨ 0 < z_gc (z_sv x s).2.2.1) ∧ z_nown nw x tc (z_sv x s).1 t = true ∧ y = pl t) := by
        intro wr hw2
        obtain ⟨s', e1, e2, e3⟩ := k_nt hT wr (z := Int32.ofNat (pl t)) (p := pl t) (fun _ => ⟨rfl, pt⟩)
        refine ⟨s', ?_, hs.trans e2, e3.iff (fun y => ?_)⟩
        · unfold f_Ch_lookForBarred_72
          rw [x_gI, V.I (by decide), d3.2.2.1, x_nn, e1, x_c, x_p1]
        · constructor
          · rintro (h | ⟨h1, h2⟩)
            · exact Or.inl h
            · exact Or.inr ⟨sx, sl, t, d1, d2, d3, (hw2.mp h1).1, (hw2.mp h1).2, h2⟩
          · rintro (h | ⟨s', sl', t', f1, f2, f3, f4, f5, f6⟩)
            · exact Or.inl h
            · have es : s' = sx := by
                have := f3.1.symm.trans d3.1
                have := Option.some.inj this
                omega
              subst es
              have isn' := f2.isn hw hr
              have en := E_so.tok NM d3 f3 isn.1 isn'.1
              have ep : pl t = pl t' := by
                have e := d3.2.2.1.symm.trans f3.2.2.1
                rw [x_eq (by omega) (by have := hpl t' (by have := isn'.1.1; omega); omega)] at e
                exact e
              have esl : sl = none ↔ sl' = none := by
                have e := d3.2.1.symm.trans f3.2.1
                constructor
                · intro h
                  rw [h] at e
                  cases sl' with
                  | none => rfl
                  | some m => exact absurd e.symm (z_oc_n (by have := f2.1; omega))
                · intro h
                  rw [h] at e
                  cases hsl : sl with
                  | none => rfl
                  | some m => rw [hsl] at e; exact absurd e (z_oc_n (slt m hsl))
              rw [← esl] at f4
              rw [← z_nown_nw en] at f5
              exact Or.inr ⟨hw2.mpr ⟨f4, f5⟩, by rw [f6, ep]⟩
      have e53 : ∀ br : Bool, (br = true ↔ (sl = none ∨ 0 < z_gc (z_sv x sx).2.2.1)) → ∃ s', f_Ch_lookForBarred_53 (f_Ch_lookForBarred_2 f) (some 3) (Int32.ofNat i) (some ((b 9 + i) * 64 + 9)) (z_g br) s = f_Ch_lookForBarred_2 f (some 3) (Int32.ofNat (i + 1)) s' ∧ E_fk [195] [] v s' ∧ E_lo s' (fun y => T y ∨ ∃ s sl t, s < (z_sels x).length ∧ q_so (z_sv x s).2 sl t ∧ E_so pl wd u0 (b 9 + i) (some ((b 8 + s) * 64 + 8)) (z_oc sl) t ∧ (sl = none ∨ 0 < z_gc (z_sv x s).2.2.1) ∧ z_nown nw x tc (z_sv x s).1 t = true ∧ y = pl t) := by
        intro br hb
        unfold f_Ch_lookForBarred_53
        cases br with
        | false =>
          rw [if_pos (show z_g false = 0 from rfl)]
          exact fin false ⟨fun h => (by cases h), fun h => by cases hb.mpr h.1⟩
        | true =>
          rw [if_neg (show ¬ z_g true = 0 from by decide), x_nn, ev, x_c]
          cases hz : z_nown nw x tc (z_sv x sx).1 t with
          | false =>
            rw [if_pos (show z_g false = 0 from rfl)]
            exact fin false ⟨fun h => (by cases h), fun h => by rw [hz] at h; cases h.2⟩
          | true =>
            rw [if_neg (show ¬ z_g true = 0 from by decide)]
            exact fin true ⟨fun _ => ⟨hb.mp rfl, hz⟩, fun _ => rfl⟩
      show ∃ s', f_Ch_lookForBarred_2 (f + 1) (some 3) (Int32.ofNat i) s = _ ∧ _
      rw [f_Ch_lookForBarred_2, x_gR, V.2.1, x_gR, V.R (by decide), r1, x_nn, k_size li, x_c, if_neg (by rw [x_le (by omega) (by omega)]; omega), x_gR, V.2.1, x_gR, V.R (by decide), r1, x_nn, k_get li hi, x_c, x2 i hi, x_castS (by omega), x_nn, inn, x_c, x_gR, V.R (by decide), d3.1, x_gI, V.I (by decide), s3.2.2.2.2.1.2.1]
      cases hsl : sl with
      | none =>
        rw [if_neg (show ¬ z_g (none : Option Nat).isNone = 0 from by decide)]
        exact e53 true ⟨fun _ => Or.inl hsl, fun _ => rfl⟩
      | some m =>
        rw [if_pos (show z_g (some m).isNone = 0 from rfl)]
        by_cases w : z_gc (z_sv x sx).2.2.1 ≤ 0
        · rw [if_pos (by rw [show (0 : Int32) = Int32.ofNat 0 from rfl, x_le (by omega) (by omega)]; exact w)]
          refine e53 false ⟨fun h => (by cases h), fun h => ?_⟩
          rcases h with h | h
          · rw [hsl] at h; cases h
          · omega
        · rw [if_neg (by rw [show (0 : Int32) = Int32.ofNat 0 from rfl, x_le (by omega) (by omega)]; exact w)]
          exact e53 true ⟨fun _ => Or.inr (by omega), fun _ => rfl⟩)
    (f := 200000) (by omega) hs hS
  refine ⟨s', m1, m2, m3.iff (fun y => ?_)⟩
  constructor
  · rintro (h | ⟨i, -, s, sl, t, h1, h2, -, h4⟩)
    · exact Or.inl h
    · exact Or.inr ⟨s, sl, t, h1, h2, h4⟩
  · rintro (h | ⟨s, sl, t, h1, h2, h4⟩)
    · exact Or.inl h
    · obtain ⟨a, a1, a2, a3⟩ := k_src9' Q h1 h2
      refine Or.inr ⟨a - b 9, by omega, s, sl, t, h1, h2, ?_, h4⟩
      rw [show b 9 + (a - b 9) = a by omega]
      exact a3
end
