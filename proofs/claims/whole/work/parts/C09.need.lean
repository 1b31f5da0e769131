/-! THE ENGINE'S CHECK: which parts a part needs -/
theorem z_bit0 : ∀ a : Fin 16, ∀ k : Fin 4, decide (((Int32.ofNat a.1 >>> (Int32.ofNat k.1 &&& 31)) &&& 1) = 0) = !(a.1).testBit k.1 := by decide +kernel
theorem z_bit0' {a k : Nat} (ha : a < 16) (hk : k < 4) : (((Int32.ofNat a >>> (Int32.ofNat k &&& 31)) &&& 1) = 0) = (a.testBit k = false) := by
  have := z_bit0 ⟨a, ha⟩ ⟨k, hk⟩
  by_cases w : ((Int32.ofNat a >>> (Int32.ofNat k &&& 31)) &&& 1) = 0
  · rw [decide_eq_true w] at this
    exact propext ⟨fun _ => by cases h : a.testBit k with | true => rw [h] at this; cases this | false => rfl, fun _ => w⟩
  · rw [decide_eq_false w] at this
    exact propext ⟨fun h => absurd h w, fun h => by rw [h] at this; cases this⟩
theorem z_sh4 {k : Nat} (hk : k < 4) : (1 : Int32) <<< (Int32.ofNat k &&& 31) = Int32.ofNat (2 ^ k) := z_shl ⟨k, hk⟩
theorem q_so_srt {y : z_Se} {t : Nat} : t ∈ z_srt y ↔ ∃ sl, q_so y sl t := by
  unfold z_srt
  rw [List.mem_append, List.mem_filterMap]
  constructor
  · rintro (h | ⟨c, h1, h2⟩)
    · obtain ⟨m, m1, m2⟩ := z_mgd 0 h
      exact ⟨some m, m1, m2⟩
    · exact ⟨none, c, h1, h2⟩
  · rintro ⟨sl, h⟩
    cases sl with
    | some m => obtain ⟨h1, h2⟩ := h; rw [← h2]; exact Or.inl (z_getD_m h1)
    | none => obtain ⟨c, h1, h2⟩ := h; exact Or.inr ⟨c, h1, h2⟩
theorem z_sv_pt {x : z_Qu} (h4 : x.2.1.length ≤ 4) {m : Nat} (hm : m < x.2.1.length) {P : z_Se → Prop} : (∃ s, s < (z_sels x).length ∧ (z_sv x s).1 = m ∧ P (z_sv x s).2) ↔ ∃ y ∈ (x.2.1.getD m z_pa0).2.2.1, P y := by
  constructor
  · rintro ⟨s, h1, h2, h3⟩
    by_cases w : s < z_tot x.2.1
    · obtain ⟨m', m1, m2, m3⟩ := z_cov (fun x : z_Pa => x.2.2.1.length) z_pa0 x.2.1 0 s (Nat.zero_le _) (by rw [← z_tot_S]; omega)
      rw [← z_tot_S] at m2 m3
      have hl : s - z_tot (x.2.1.take m') < (x.2.1.getD m' z_pa0).2.2.1.length := by omega
      obtain ⟨g1, g2⟩ := z_sels_get m1 hl
      rw [show z_tot (x.2.1.take m') + (s - z_tot (x.2.1.take m')) = s by omega] at g1
      have g3 : z_sv x s = (m', (x.2.1.getD m' z_pa0).2.2.1.getD (s - z_tot (x.2.1.take m')) z_se0) := g1
      rw [g3] at h2 h3
      have e : m' = m := h2
      rw [e] at h3 hl
      exact ⟨_, z_getD_m hl, h3⟩
    · rw [z_sv_len] at h1
      rw [show s = z_tot x.2.1 by omega, z_sv_own] at h2
      have e : 4 = m := h2
      omega
  · rintro ⟨y, h1, h2⟩
    obtain ⟨m2, l1, l2⟩ := z_mgd z_se0 h1
    obtain ⟨g1, g2⟩ := z_sels_get hm l1
    have g3 : z_sv x (z_tot (x.2.1.take m) + m2) = (m, (x.2.1.getD m z_pa0).2.2.1.getD m2 z_se0) := g1
    exact ⟨_, g2, by rw [g3], by rw [g3]; show P ((x.2.1.getD m z_pa0).2.2.1.getD m2 z_se0); rw [l2]; exact h2⟩
def E_nd (b : Nat → Nat) (m : Nat) (v : g_St) (r : Nat → Nat) : Prop := ∀ k, k < m → g_I v 775 ((b 7 + k) * 64 + 7) = Int32.ofNat (r k) ∧ r k < 16
theorem E_nd.ud {b : Nat → Nat} {m : Nat} {v : g_St} {r : Nat → Nat} (h : E_nd b m v r) (i w : Nat) (hw : w < 16) : E_nd b m (g_setI v 775 ((b 7 + i) * 64 + 7) (Int32.ofNat w)) (z_ud r i w) := fun k hk => by
  unfold z_ud
  by_cases e : k = i
  · rw [if_pos e, x_I_I, if_pos ⟨rfl, by rw [e]⟩]; exact ⟨rfl, hw⟩
  · rw [if_neg e, x_I_I, if_neg (fun q => by have := q.2; omega)]; exact h k hk
section
variable {n q : Nat} {kd pl nw nv : Nat → Nat} {wd vl : Nat → Int64} {c : z_Cx} {A O : Nat} {b : Nat → Nat} {x : z_Qu} {tc : Nat} {cols : Nat → Nat} {xs ys : List Nat} {u0 : g_St}
/-- source a stands in part m and names part j -/
def E_nmr (pl nw : Nat → Nat) (wd : Nat → Int64) (b : Nat → Nat) (x : z_Qu) (tc : Nat) (u : g_St) (a m j : Nat) : Prop := ∃ s sl t, s < (z_sels x).length ∧ (z_sv x s).1 = m ∧ q_so (z_sv x s).2 sl t ∧ E_so pl wd u a (some ((b 8 + s) * 64 + 8)) (z_oc sl) t ∧ z_mng nw x.2.1 tc t = some (.inl j)
theorem E_so.tok (NM : z_NM n kd wd vl nw nv) {a t t' : Nat} {p p' : Option Nat} {k k' : Int32} (h : E_so pl wd u0 a p k t) (g : E_so pl wd u0 a p' k' t') (i1 : z_isn n kd t) (i2 : z_isn n kd t') : nw t = nw t' := by
  rw [← NM.eqE i1 i2, ← h.2.2.2.1, ← g.2.2.2.1]
theorem k_nd2 (NM : z_NM n kd wd vl nw nv) (S : E_S pl wd c A O b x tc cols xs ys u0) (W : z_wqu kd q x) (hq : q ≤ n) {s7 : g_St} (V7 : E_V c tc u0 s7) (N7 : E_ns n kd nw wd b x tc u0 s7) (h7 : E_nd b x.2.1.length s7 (fun _ => 0)) : ∃ v, f_Ch_needParts (some 3) s7 = f_Ch_needParts_92 200000 (some 3) 0 v ∧ E_V c tc u0 v ∧ E_fk [775] [] s7 v ∧ E_nd b x.2.1.length v (z_edg nw x tc) := by
  obtain ⟨Q, ⟨r1, r2⟩, ⟨l1, l2⟩, ⟨x1, x2⟩, y1, t1, t2, t3⟩ := S
  have SS : E_S pl wd c A O b x tc cols xs ys u0 := ⟨Q, ⟨r1, r2⟩, ⟨l1, l2⟩, ⟨x1, x2⟩, y1, t1, t2, t3⟩
  have hl := l1.len
  have q3 := Q.1.2.2.1
  unfold f_Ch_needParts
  refine z_cl xs.length (fun f i s => f_Ch_needParts_2 f (some 3) (Int32.ofNat i) s) (fun v => f_Ch_needParts_92 200000 (some 3) 0 v) (fun i s => E_V c tc u0 s ∧ E_fk [775] [] s7 s ∧ ∃ r, E_nd b x.2.1.length s r ∧ ∀ m, m < x.2.1.length → ∀ j, (r m).testBit j = true ↔ ∃ a, b 9 ≤ a ∧ a < b 9 + i ∧ E_nmr pl nw wd b x tc u0 a m j) (fun v => E_V c tc u0 v ∧ E_fk [775] [] s7 v ∧ E_nd b x.2.1.length v (z_edg nw x tc)) ?_ ?_ xs.length 0 s7 200000 (by omega) (by omega) ⟨V7, E_fk.re, fun _ => 0, h7, fun m _ j => ⟨fun h => (by rw [Nat.zero_testBit] at h; cases h), fun ⟨a, h1, h2, _⟩ => by omega⟩⟩
  · rintro f s ⟨V, F, r, R, B⟩
    refine ⟨s, ?_, V, F, fun m hm => ?_⟩
    · show f_Ch_needParts_2 (f + 1) (some 3) (Int32.ofNat xs.length) s = _
      rw [f_Ch_needParts_2, x_gR, V.2.1, x_gR, V.R (by decide), r1, x_nn, k_size (l1.fk V.1 (by decide) (by decide)), x_c, if_pos (by rw [x_le (by omega) (by omega)]; exact Nat.le_refl _)]
    · have e : r m = z_edg nw x tc m := Nat.eq_of_testBit_eq (fun j => Bool.eq_iff_iff.mpr (by
        rw [B m hm j, z_edg_bit, ← z_sv_pt q3 hm (P := fun y => ∃ t ∈ z_srt y, z_mng nw x.2.1 tc t = some (.inl j))]
        constructor
        · rintro ⟨a, a1, a2, s, sl, t, d1, d2, d3, d4, d5⟩
          exact ⟨s, d1, d2, t, q_so_srt.mpr ⟨sl, d3⟩, d5⟩
        · rintro ⟨s, d1, d2, t, d3, d4⟩
          obtain ⟨sl, d5⟩ := q_so_srt.mp d3
          obtain ⟨a, a1, a2, a3⟩ := k_src9' Q d1 d5
          exact ⟨a, a1, by omega, s, sl, t, d1, d2, d5, a3, d4⟩))
      rw [← e]
      exact R m hm
  · rintro f i s hi ⟨V, F, r, R, B⟩
    have li := l1.fk V.1 (by decide) (by decide)
    obtain ⟨sx, sl, t, d1, d2, d3⟩ := k_src9 Q (a := b 9 + i) (by omega) (by omega)
    obtain ⟨p, rr, hr, hw⟩ := z_sv_w W hq d1
    have isn := (d2.isn hw hr).1
    obtain ⟨n1, n2⟩ := (N7.fk F (by decide) (by decide)) (b 9 + i) t (by omega) (by omega) d3.2.2.2.1 isn
    obtain ⟨ii, kk, jj, s1, s2, s3⟩ := k_sel Q d1
    have how : g_I s 8 ((b 8 + sx) * 64 + 8) = Int32.ofNat (min (z_sv x sx).1 x.2.1.length) := by rw [V.I (by decide)]; exact s3.2.1
    have hmin : min (z_sv x sx).1 x.2.1.length ≤ 4 := Nat.le_trans (Nat.min_le_right _ _) q3
    have hsel : g_R s 9 ((b 9 + i) * 64 + 9) = some ((b 8 + sx) * 64 + 8) := by rw [V.R (by decide)]; exact d3.1
    -- what another reading of the same source says
    have oth : ∀ m j, E_nmr pl nw wd b x tc u0 (b 9 + i) m j → (z_sv x sx).1 = m ∧ z_mng nw x.2.1 tc t = some (.inl j) := by
      rintro m j ⟨s', sl', t', g1, g2, g3, g4, g5⟩
      have es : s' = sx := by
        have := g4.1.symm.trans d3.1
        have := Option.some.inj this
        omega
      obtain ⟨p', r', hr', hw'⟩ := z_sv_w W hq g1
      have en := E_so.tok NM d3 g4 isn (g3.isn hw' hr').1
      exact ⟨by rw [← es]; exact g2, by rw [z_mng_nw en]; exact g5⟩
    have st : f_Ch_needParts_2 (f + 1) (some 3) (Int32.ofNat i) s = if z_ppE (z_mng nw x.2.1 tc t) < 0 then f_Ch_needParts_2 f (some 3) (Int32.ofNat (i + 1)) s else if Int32.ofNat x.2.1.length ≤ Int32.ofNat (min (z_sv x sx).1 x.2.1.length) then f_Ch_needParts_2 f (some 3) (Int32.ofNat (i + 1)) s else g_gR s 3 (some 3) fun p14 => g_gR s 6 p14 fun p15 => g_aR s p15 (Int32.ofNat (min (z_sv x sx).1 x.2.1.length)) fun p18 => g_gI s 775 p18 fun i19 => g_pI s 775 p18 (i19 ||| (1 <<< (z_ppE (z_mng nw x.2.1 tc t) &&& 31))) fun s21 => f_Ch_needParts_2 f (some 3) (Int32.ofNat (i + 1)) s21 := by
      rw [f_Ch_needParts_2, x_gR, V.2.1, x_gR, V.R (by decide), r1, x_nn, k_size li, x_c, if_neg (by rw [x_le (by omega) (by omega)]; omega), x_gR, V.2.1, x_gR, V.R (by decide), r1, x_nn, k_get li hi, x_c, x2 i hi, x_castS (by omega), x_gI, n1, x_p1]
      congr 1
      rw [x_gR, hsel, x_gI, how, V.count SS]
      congr 1
      rw [x_gR, V.2.1, x_gR, V.R (by decide), Q.2.1.2.2.2.1.1, x_gR, hsel, x_gI, how, x_gR, V.2.1, x_gR, V.R (by decide), Q.2.1.2.2.2.1.1]
      congr 1
      funext p18
      congr 1
      funext i19
      rw [x_gI, n1]
    have skip : (∀ m, m < x.2.1.length → ∀ j, ¬ ((z_sv x sx).1 = m ∧ z_mng nw x.2.1 tc t = some (.inl j))) → ∀ m, m < x.2.1.length → ∀ j, (r m).testBit j = true ↔ ∃ a, b 9 ≤ a ∧ a < b 9 + (i + 1) ∧ E_nmr pl nw wd b x tc u0 a m j := by
      intro no m hm j
      rw [B m hm j]
      constructor
      · rintro ⟨a, a1, a2, a3⟩
        exact ⟨a, a1, by omega, a3⟩
      · rintro ⟨a, a1, a2, a3⟩
        by_cases e : a = b 9 + i
        · rw [e] at a3
          exact absurd (oth m j a3) (no m hm j)
        · exact ⟨a, a1, by omega, a3⟩
    cases hM : z_mng nw x.2.1 tc t with
    | none =>
      rw [hM] at st
      refine ⟨s, by rw [if_pos (show z_ppE none < 0 from by decide)] at st; exact st, V, F, r, R, skip (fun m _ j h => by rw [hM] at h; cases h.2)⟩
    | some mm =>
      cases mm with
      | inr k =>
        rw [hM] at st
        refine ⟨s, by rw [if_pos (show z_ppE (some (.inr k)) < 0 from (by decide : (-1 : Int32) < 0))] at st; exact st, V, F, r, R, skip (fun m _ j h => by rw [hM] at h; cases h.2)⟩
      | inl k =>
        have hk := z_mng_lt.1 k hM
        rw [hM, if_neg (show ¬ z_ppE (some (.inl k)) < 0 from by show ¬ Int32.ofNat k < 0; rw [show (0 : Int32) = Int32.ofNat 0 from rfl, x_lt (by omega) (by omega)]; omega)] at st
        by_cases w : (z_sv x sx).1 < x.2.1.length
        · have em : min (z_sv x sx).1 x.2.1.length = (z_sv x sx).1 := Nat.min_eq_left (by omega)
          rw [em] at st
          rw [if_neg (by rw [x_le (by omega) (by omega)]; omega), V.part SS w, x_gI, (R _ w).1, x_pI, show z_ppE (some (.inl k)) = Int32.ofNat k from rfl, z_sh4 (by omega)] at st
          have O := z_or16' (R _ w).2 (z_p16 (show k < 4 by omega))
          rw [O.1] at st
          refine ⟨_, st, V.pI (by decide) (by decide) _ _, F.pI (by decide) _ _, _, R.ud _ _ O.2, fun m hm j => ?_⟩
          unfold z_ud
          by_cases e : m = (z_sv x sx).1
          · rw [if_pos e, Nat.testBit_or, Bool.or_eq_true, Nat.testBit_two_pow, ← e, B m hm j]
            constructor
            · rintro (⟨a, a1, a2, a3⟩ | h)
              · exact ⟨a, a1, by omega, a3⟩
              · exact ⟨b 9 + i, by omega, by omega, sx, sl, t, d1, e.symm, d2, d3, by rw [hM, show k = j from of_decide_eq_true h]⟩
            · rintro ⟨a, a1, a2, a3⟩
              by_cases ea : a = b 9 + i
              · rw [ea] at a3
                have := (oth m j a3).2
                rw [hM] at this
                cases this
                exact Or.inr (decide_eq_true rfl)
              · exact Or.inl ⟨a, a1, by omega, a3⟩
          · rw [if_neg e, B m hm j]
            constructor
            · rintro ⟨a, a1, a2, a3⟩
              exact ⟨a, a1, by omega, a3⟩
            · rintro ⟨a, a1, a2, a3⟩
              by_cases ea : a = b 9 + i
              · rw [ea] at a3
                exact absurd (oth m j a3).1.symm e
              · exact ⟨a, a1, by omega, a3⟩
        · have em : min (z_sv x sx).1 x.2.1.length = x.2.1.length := Nat.min_eq_right (by omega)
          rw [em, if_pos (by rw [x_le (by omega) (by omega)]; exact Nat.le_refl _)] at st
          exact ⟨s, st, V, F, r, R, skip (fun m hm j h => by omega)⟩
end
