/-! THE ENGINE'S CHECK: faults 2 at sources -/
section
variable {n q : Nat} {kd pl nw nv : Nat → Nat} {wd vl : Nat → Int64} {c : z_Cx} {A O : Nat} {b : Nat → Nat} {x : z_Qu} {tc : Nat} {cols : Nat → Nat} {xs ys : List Nat} {u0 : g_St}
/-- faults 2 told at a source -/
def z_sf2 (nw pl : Nat → Nat) (x : z_Qu) (tc s : Nat) (sl : Option Nat) (t y : Nat) : Prop := (z_sbad x.1 (z_sv x s).1 (z_mng nw x.2.1 tc t) = true ∧ y = pl t) ∨ ∃ k, k < sl.getD (z_sv x s).2.2.2.1.length ∧ nw ((z_sv x s).2.2.2.1.getD k 0 + 1) = nw (t + 1) ∧ y = pl (t + 1)
theorem k_inn {s : g_St} {a : Nat} {sl : Option Nat} (h : g_I s 73 a = z_oc sl) (hb : ∀ m, sl = some m → m < 2 ^ 31) : f_So_isInner (some a) s = some (z_g sl.isNone, s) := by
  unfold f_So_isInner
  rw [x_gI, h]
  cases sl with
  | none => rfl
  | some m =>
    have := hb m rfl
    rw [if_pos ((z_oc_nn (fun i e => by cases e; exact this)).mpr rfl)]
    rfl
theorem k_ls118 (NM : z_NM n kd wd vl nw nv) (hpl : ∀ i, i ≤ n → pl i ≤ 400) (S : E_S pl wd c A O b x tc cols xs ys u0) (W : z_wqu kd q x) (hq : q ≤ n) (k2 : Option Nat → Int32 → g_St → Option (Unit × g_St)) {v : g_St} (D : E_D n kd pl nw wd c b x tc cols xs ys u0 v) {sx : Nat} (hx : sx < (z_sels x).length) {a t : Nat} {sl : Option Nat} (h3 : q_so (z_sv x sx).2 sl t) (h4 : E_so pl wd u0 a (some ((b 8 + sx) * 64 + 8)) (z_oc sl) t) (y1 : Nat) {N : Nat} (hN : N ≤ (z_sv x sx).2.2.2.1.length) {s : g_St} {Z : Nat → Prop} (hs : E_fk [195] [] v s) (hS : E_lo s Z) : ∃ s', f_Ch_lookAtSources_118 k2 200000 (some 3) (Int32.ofNat y1) (some (a * 64 + 9)) (Int32.ofNat N) 0 s = k2 (some 3) (Int32.ofNat (y1 + 1)) s' ∧ E_fk [195] [] v s' ∧ E_lo s' (fun y => Z y ∨ ∃ k, k < N ∧ nw ((z_sv x sx).2.2.2.1.getD k 0 + 1) = nw (t + 1) ∧ y = pl (t + 1)) := by
  obtain ⟨p, r, hr, hw⟩ := z_sv_w W hq hx
  have isn := (h3.isn hw hr).2
  obtain ⟨i, k, j, s1, s2, s3⟩ := k_sel S.1 hx
  obtain ⟨e1, e2, e3, e4, e5, e6, a26, a23, a27, a28, e7, e8, e9, e10, e11, e12⟩ := s3
  have l3 := e6.2.1
  have pt := hpl (t + 1) (by have := isn.1; omega)
  refine k_lk N (fun f k s => f_Ch_lookAtSources_118 k2 f (some 3) (Int32.ofNat y1) (some (a * 64 + 9)) (Int32.ofNat N) (Int32.ofNat k) s) (fun s => k2 (some 3) (Int32.ofNat (y1 + 1)) s) v (fun k y => nw ((z_sv x sx).2.2.2.1.getD k 0 + 1) = nw (t + 1) ∧ y = pl (t + 1)) (fun f s hs => ?_) (fun f k s T hk hs hT => ?_) (by omega) hs hS
  · show f_Ch_lookAtSources_118 k2 (f + 1) _ _ _ _ (Int32.ofNat N) s = _
    rw [f_Ch_lookAtSources_118, if_pos (by rw [x_le (by omega) (by omega)]; exact Nat.le_refl _), x_p1]
  · have V := (D.fk hs.w195).1
    obtain ⟨g1, g2, g3⟩ := e11 k (by omega)
    have i2 := (q_so.isn (sl := some k) hw hr ⟨by omega, rfl⟩).2
    have fin : ∀ wr : Bool, (∀ y, (wr = true ∧ y = pl (t + 1)) ↔ (nw ((z_sv x sx).2.2.2.1.getD k 0 + 1) = nw (t + 1) ∧ y = pl (t + 1))) → ∃ s', f_Ch_lookAtSources_152 (f_Ch_lookAtSources_118 k2 f) (some 3) (Int32.ofNat y1) (some (a * 64 + 9)) (Int32.ofNat N) (Int32.ofNat k) (some 3) (z_g wr) s = f_Ch_lookAtSources_118 k2 f (some 3) (Int32.ofNat y1) (some (a * 64 + 9)) (Int32.ofNat N) (Int32.ofNat (k + 1)) s' ∧ E_fk [195] [] v s' ∧ E_lo s' (fun y => T y ∨ (nw ((z_sv x sx).2.2.2.1.getD k 0 + 1) = nw (t + 1) ∧ y = pl (t + 1))) := by
      intro wr hw
      obtain ⟨s', c1, c2, c3⟩ := k_nt hT wr (z := Int32.ofNat (pl (t + 1))) (p := pl (t + 1)) (fun _ => ⟨rfl, pt⟩)
      refine ⟨s', ?_, hs.trans c2, c3.iff (fun y => by rw [hw y])⟩
      unfold f_Ch_lookAtSources_152
      rw [x_gI, V.I (by decide), h4.2.2.2.2.1, x_nn, c1, x_c, x_p1]
    show ∃ s', f_Ch_lookAtSources_118 k2 (f + 1) _ _ _ _ (Int32.ofNat k) s = _ ∧ _
    rw [f_Ch_lookAtSources_118, if_neg (by rw [x_le (by omega) (by omega)]; omega), x_gR, V.R (by decide), h4.1, x_gR, V.R (by decide), e8.2.2.1, x_aR (by omega) (by rw [V.ln, e9.2.2.1]; omega), V.AR, g1, x_gL, V.L, g3.2.2.2.2.2.1, x_gL, V.L, h4.2.2.2.2.2.1]
    by_cases e : nw ((z_sv x sx).2.2.2.1.getD k 0 + 1) = nw (t + 1)
    · rw [if_pos (by rw [NM.eqE i2 isn]; exact e)]
      exact fin true (fun y => ⟨fun h => ⟨e, h.2⟩, fun h => ⟨rfl, h.2⟩⟩)
    · rw [if_neg (by rw [NM.eqE i2 isn]; exact e)]
      exact fin false (fun y => ⟨fun h => (by cases h.1), fun h => absurd h.1 e⟩)
theorem k_ls (NM : z_NM n kd wd vl nw nv) (hpl : ∀ i, i ≤ n → pl i ≤ 400) (S : E_S pl wd c A O b x tc cols xs ys u0) (W : z_wqu kd q x) (hq : q ≤ n) {v : g_St} (D : E_D n kd pl nw wd c b x tc cols xs ys u0 v) {s : g_St} {Z : Nat → Prop} (hs : E_fk [195] [] v s) (hS : E_lo s Z) : ∃ s', f_Ch_lookAtSources (some 3) s = some ((), s') ∧ E_fk [195] [] v s' ∧ E_lo s' (fun y => Z y ∨ ∃ s sl t, s < (z_sels x).length ∧ q_so (z_sv x s).2 sl t ∧ z_sf2 nw pl x tc s sl t y) := by
  obtain ⟨Q, ⟨r1, r2⟩, ⟨l1, l2⟩, ⟨x1, x2⟩, y1, t1, t2, t3⟩ := S
  have SS : E_S pl wd c A O b x tc cols xs ys u0 := ⟨Q, ⟨r1, r2⟩, ⟨l1, l2⟩, ⟨x1, x2⟩, y1, t1, t2, t3⟩
  have hl := l1.len
  have q3 := Q.1.2.2.1
  unfold f_Ch_lookAtSources
  obtain ⟨s', m1, m2, m3⟩ := k_lk xs.length (fun f i s => f_Ch_lookAtSources_2 f (some 3) (Int32.ofNat i) s) (fun s => some ((), s)) v (fun i y => ∃ s sl t, s < (z_sels x).length ∧ q_so (z_sv x s).2 sl t ∧ E_so pl wd u0 (b 9 + i) (some ((b 8 + s) * 64 + 8)) (z_oc sl) t ∧ z_sf2 nw pl x tc s sl t y) (fun f s hs => by
      have V := (D.fk hs.w195).1
      show f_Ch_lookAtSources_2 (f + 1) (some 3) (Int32.ofNat xs.length) s = _
      rw [f_Ch_lookAtSources_2, x_gR, V.2.1, x_gR, V.R (by decide), r1, x_nn, k_size (l1.fk V.1 (by decide) (by decide)), x_c, if_pos (by rw [x_le (by omega) (by omega)]; exact Nat.le_refl _)])
    (fun f i s T hi hs hT => by
      have Ds := D.fk hs.w195
      have V := Ds.1
      have li := l1.fk V.1 (by decide) (by decide)
      obtain ⟨sx, sl, t, d1, d2, d3⟩ := k_src9 Q (a := b 9 + i) (by omega) (by omega)
      obtain ⟨p, rr, hr, hw⟩ := z_sv_w W hq d1
      have isn := (d2.isn hw hr)
      obtain ⟨n1, n2⟩ := Ds.2.1 (b 9 + i) t (by omega) (by omega) d3.2.2.2.1 isn.1
      obtain ⟨ii, kk, jj, s1, s2, s3⟩ := k_sel Q d1
      have how : g_I s 8 ((b 8 + sx) * 64 + 8) = Int32.ofNat (min (z_sv x sx).1 x.2.1.length) := by rw [V.I (by decide)]; exact s3.2.1
      have l3 := s3.2.2.2.2.2.1.2.1
      have hmin : min (z_sv x sx).1 x.2.1.length ≤ 4 := Nat.le_trans (Nat.min_le_right _ _) q3
      have pt := hpl t (by have := isn.1.1; omega)
      have hsl : ∀ m, sl = some m → m < (z_sv x sx).2.2.2.1.length := fun m e => by rw [e] at d2; exact d2.1
      have slt : ∀ m, sl = some m → m < 2 ^ 31 := fun m e => by have := hsl m e; omega
      -- behind the first note
      have e85 : ∀ wr : Bool, wr = z_sbad x.1 (z_sv x sx).1 (z_mng nw x.2.1 tc t) → ∃ s', f_Ch_lookAtSources_85 (f_Ch_lookAtSources_2 f) (some 3) (Int32.ofNat i) (some ((b 9 + i) * 64 + 9)) (some 3) (z_g wr) s = f_Ch_lookAtSources_2 f (some 3) (Int32.ofNat (i + 1)) s' ∧ E_fk [195] [] v s' ∧ E_lo s' (fun y => T y ∨ z_sf2 nw pl x tc sx sl t y) := by
        intro wr hwr
        obtain ⟨s4, c1, c2, c3⟩ := k_nt hT wr (z := Int32.ofNat (pl t)) (p := pl t) (fun _ => ⟨rfl, pt⟩)
        have hs4 := hs.trans c2
        have V4 := (D.fk hs4.w195).1
        have inn := k_inn (s := s4) (a := (b 9 + i) * 64 + 9) (sl := sl) (by rw [V4.I (by decide)]; exact d3.2.1) slt
        obtain ⟨s5, g1, g2, g3⟩ := k_ls118 NM hpl SS W hq (f_Ch_lookAtSources_2 f) D d1 d2 d3 i (N := sl.getD (z_sv x sx).2.2.2.1.length) (by
          cases hsl' : sl with
          | none => exact Nat.le_refl _
          | some m => exact Nat.le_of_lt (hsl m hsl')) hs4 c3
        refine ⟨s5, ?_, g2, g3.iff (fun y => ?_)⟩
        · unfold f_Ch_lookAtSources_85
          rw [x_gI, V.I (by decide), d3.2.2.1, x_nn, c1, x_c, x_nn, inn, x_c]
          cases hsl' : sl with
          | none =>
            rw [hsl'] at g1
            rw [if_neg (show ¬ z_g (none : Option Nat).isNone = 0 from by decide), x_gR, V4.R (by decide), d3.1, x_gI, V4.I (by decide), s3.2.2.2.2.1.2.2.2.1]
            exact g1
          | some m =>
            rw [hsl'] at g1 d3
            rw [if_pos (show z_g (some m).isNone = 0 from rfl), x_gI, V4.I (by decide), d3.2.1]
            exact g1
        · unfold z_sf2
          rw [← hwr]
          constructor
          · rintro ((h | h) | h)
            · exact Or.inl h
            · exact Or.inr (Or.inl h)
            · exact Or.inr (Or.inr h)
          · rintro (h | h | h)
            · exact Or.inl (Or.inl h)
            · exact Or.inl (Or.inr h)
            · exact Or.inr h
      have e60 : ∀ wr : Bool, (wr || (match z_mng nw x.2.1 tc t with | none => true | _ => false)) = z_sbad x.1 (z_sv x sx).1 (z_mng nw x.2.1 tc t) → ∃ s', f_Ch_lookAtSources_60 (f_Ch_lookAtSources_2 f) (some 3) (Int32.ofNat i) (some ((b 9 + i) * 64 + 9)) (z_g wr) s = f_Ch_lookAtSources_2 f (some 3) (Int32.ofNat (i + 1)) s' ∧ E_fk [195] [] v s' ∧ E_lo s' (fun y => T y ∨ z_sf2 nw pl x tc sx sl t y) := by
        intro wr hwr
        unfold f_Ch_lookAtSources_60
        cases wr with
        | true =>
          rw [if_neg (show ¬ z_g true = 0 from by decide)]
          exact e85 true (by rw [← hwr]; rfl)
        | false =>
          rw [if_pos (show z_g false = 0 from rfl), x_gI, n1, x_gI, n2]
          have hM := z_mng_lt (N := nw) (ps := x.2.1) (tc := tc) (t := t)
          generalize z_mng nw x.2.1 tc t = mm at hwr hM e85
          cases mm with
          | none => rw [if_neg (show ¬ (0 : Int32) ≤ z_ppE none from by decide), if_neg (show ¬ (0 : Int32) ≤ z_ptE none from by decide)]; exact e85 true (by rw [← hwr]; rfl)
          | some m2 =>
            cases m2 with
            | inl k =>
              have := hM.1 k rfl
              rw [if_pos (show (0 : Int32) ≤ z_ppE (some (.inl k)) from by show (0 : Int32) ≤ Int32.ofNat k; rw [show (0 : Int32) = Int32.ofNat 0 from rfl, x_le (by omega) (by omega)]; omega)]
              exact e85 false (by rw [← hwr]; rfl)
            | inr k =>
              have := hM.2 k rfl
              rw [if_neg (show ¬ (0 : Int32) ≤ z_ppE (some (.inr k)) from (by decide : ¬ (0 : Int32) ≤ -1)), if_pos (show (0 : Int32) ≤ z_ptE (some (.inr k)) from by show (0 : Int32) ≤ Int32.ofNat k; rw [show (0 : Int32) = Int32.ofNat 0 from rfl, x_le (by omega) (by omega)]; omega)]
              exact e85 false (by rw [← hwr]; rfl)
      have goal : ∃ s', f_Ch_lookAtSources_2 (f + 1) (some 3) (Int32.ofNat i) s = f_Ch_lookAtSources_2 f (some 3) (Int32.ofNat (i + 1)) s' ∧ E_fk [195] [] v s' ∧ E_lo s' (fun y => T y ∨ z_sf2 nw pl x tc sx sl t y) := by
        rw [f_Ch_lookAtSources_2, x_gR, V.2.1, x_gR, V.R (by decide), r1, x_nn, k_size li, x_c, if_neg (by rw [x_le (by omega) (by omega)]; omega), x_gR, V.2.1, x_gR, V.R (by decide), r1, x_nn, k_get li hi, x_c, x2 i hi, x_castS (by omega), x_gR, V.2.1, x_gI, V.I (by decide), Q.1.1, x_gI, n1, x_gR, V.R (by decide), d3.1, x_gI, how]
        have hM := z_mng_lt (N := nw) (ps := x.2.1) (tc := tc) (t := t)
        cases hx : x.1 with
        | true =>
          rw [if_neg (show ¬ z_g true = 0 from by decide)]
          refine e60 false ?_
          rw [hx]
          cases z_mng nw x.2.1 tc t with
          | none => rfl
          | some m2 => cases m2 <;> rfl
        | false =>
          rw [if_pos (show z_g false = 0 from rfl)]
          have lt0 : (-1 : Int32) < Int32.ofNat (min (z_sv x sx).1 x.2.1.length) := by
            rw [Int32.lt_iff_toInt_lt, Int32.toInt_ofNat_of_lt (by omega), show (-1 : Int32).toInt = -1 from rfl]; omega
          cases hm : z_mng nw x.2.1 tc t with
          | none =>
            rw [if_pos (show z_ppE none < _ from lt0)]
            exact e60 false (by rw [hm, hx]; rfl)
          | some m2 =>
            cases m2 with
            | inr k =>
              rw [if_pos (show z_ppE (some (.inr k)) < _ from lt0)]
              exact e60 false (by rw [hm, hx]; rfl)
            | inl k =>
              have hk := hM.1 k hm
              have e : (z_ppE (some (.inl k)) < Int32.ofNat (min (z_sv x sx).1 x.2.1.length)) = (k < (z_sv x sx).1) := by
                show (Int32.ofNat k < _) = _
                rw [x_lt (by omega) (by omega)]
                exact propext ⟨fun h => by have := Nat.min_le_left (z_sv x sx).1 x.2.1.length; omega, fun h => Nat.lt_min.mpr ⟨h, hk⟩⟩
              by_cases w : k < (z_sv x sx).1
              · rw [if_pos (by rw [e]; exact w)]
                refine e60 false ?_
                rw [hm, hx]
                show false = (!false && decide ((z_sv x sx).1 ≤ k))
                rw [decide_eq_false (by omega)]; rfl
              · rw [if_neg (by rw [e]; exact w)]
                refine e60 true ?_
                rw [hm, hx]
                show true = (!false && decide ((z_sv x sx).1 ≤ k))
                rw [decide_eq_true (by omega)]; rfl
      obtain ⟨s', g1, g2, g3⟩ := goal
      refine ⟨s', g1, g2, g3.iff (fun y => ?_)⟩
      constructor
      · rintro (h | h)
        · exact Or.inl h
        · exact Or.inr ⟨sx, sl, t, d1, d2, d3, h⟩
      · rintro (h | ⟨s', sl', t', f1, f2, f3, f4⟩)
        · exact Or.inl h
        · refine Or.inr ?_
          have es : s' = sx := by
            have := f3.1.symm.trans d3.1
            have := Option.some.inj this
            omega
          subst es
          have isn' := f2.isn hw hr
          have en := E_so.tok NM d3 f3 isn.1 isn'.1
          have en2 : nw (t + 1) = nw (t' + 1) := by rw [← NM.eqE isn.2 isn'.2, ← d3.2.2.2.2.2.1, ← f3.2.2.2.2.2.1]
          have ep : pl t = pl t' := by
            have e := d3.2.2.1.symm.trans f3.2.2.1
            rw [x_eq (by omega) (by have := hpl t' (by have := isn'.1.1; omega); omega)] at e
            exact e
          have ep2 : pl (t + 1) = pl (t' + 1) := by
            have e := d3.2.2.2.2.1.symm.trans f3.2.2.2.2.1
            rw [x_eq (by have := hpl (t + 1) (by have := isn.2.1; omega); omega) (by have := hpl (t' + 1) (by have := isn'.2.1; omega); omega)] at e
            exact e
          have esl : sl = sl' := by
            have e := d3.2.1.symm.trans f3.2.1
            cases sl with
            | none =>
              cases sl' with
              | none => rfl
              | some m => exact absurd e.symm (z_oc_n (by have := f2.1; omega))
            | some m =>
              cases sl' with
              | none => exact absurd e (z_oc_n (by have := d2.1; omega))
              | some m' =>
                have e' : Int32.ofNat m = Int32.ofNat m' := e
                rw [x_eq (by have := d2.1; omega) (by have := f2.1; omega)] at e'
                rw [e']
          unfold z_sf2 at f4 ⊢
          rw [esl, ep, ep2, en2, z_mng_nw en]
          exact f4)
    (f := 200000) (by omega) hs hS
  refine ⟨s', m1, m2, m3.iff (fun y => ?_)⟩
  constructor
  · rintro (h | ⟨i, -, s, sl, t, h1, h2, -, h4⟩)
    · exact Or.inl h
    · exact Or.inr ⟨s, sl, t, h1, h2, h4⟩
  · rintro (h | ⟨s, sl, t, h1, h2, h4⟩)
    · exact Or.inl h
    · obtain ⟨a, a1, a2, a3⟩ := k_src9' Q h1 h2
      refine Or.inr ⟨a - b 9, by omega, s, sl, t, h1, h2, ?_, h4⟩
      rw [show b 9 + (a - b 9) = a by omega]
      exact a3
end
