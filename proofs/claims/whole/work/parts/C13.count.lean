/-! THE ENGINE'S CHECK: how often a selection names its own component -/
def z_nown (nw : Nat → Nat) (x : z_Qu) (tc ow t : Nat) : Bool := match z_mng nw x.2.1 tc t with
  | some (.inl j) => decide (ow < x.2.1.length) && ((z_rch nw x tc ow).testBit ow && (z_tog x.2.1.length (z_rch nw x tc) ow).testBit j)
  | _ => false
section
variable {n q : Nat} {kd pl nw nv : Nat → Nat} {wd vl : Nat → Int64} {c : z_Cx} {A O : Nat} {b : Nat → Nat} {x : z_Qu} {tc : Nat} {cols : Nat → Nat} {xs ys : List Nat} {u0 : g_St}
theorem z_nown_nw {ow t t' : Nat} (h : nw t = nw t') : z_nown nw x tc ow t = z_nown nw x tc ow t' := by
  unfold z_nown
  rw [z_mng_nw h]
theorem k_own (S : E_S pl wd c A O b x tc cols xs ys u0) (W : z_wqu kd q x) (hq : q ≤ n) {v : g_St} (V : E_V c tc u0 v) (N : E_ns n kd nw wd b x tc u0 v) (P2 : E_np2 b x.2.1.length (z_rch nw x tc) x.2.1.length v) (C : E_oc c b nw x tc v) {a s t : Nat} {sl : Option Nat} (h1 : b 9 ≤ a) (h2 : a < g_cnt u0 9) (hs : s < (z_sels x).length) (h3 : q_so (z_sv x s).2 sl t) (h4 : E_so pl wd u0 a (some ((b 8 + s) * 64 + 8)) (z_oc sl) t) : f_Ch_namesOwnComponent (some 3) (some (a * 64 + 9)) v = some (z_g (z_nown nw x tc (z_sv x s).1 t), v) := by
  have q3 := S.1.1.2.2.1
  obtain ⟨p, r, hr, hw⟩ := z_sv_w W hq hs
  obtain ⟨n1, -⟩ := N a t h1 h2 h4.2.2.2.1 (h3.isn hw hr).1
  obtain ⟨i, k, j, s1, s2, s3⟩ := k_sel S.1 hs
  obtain ⟨qA, qp⟩ : E_qA c u0 A O ∧ _ := ⟨S.1.2.1, S.1.2.2.1⟩
  have how : g_I v 8 ((b 8 + s) * 64 + 8) = Int32.ofNat (min (z_sv x s).1 x.2.1.length) := by rw [V.I (by decide)]; exact s3.2.1
  have hmin : min (z_sv x s).1 x.2.1.length ≤ 4 := Nat.le_trans (Nat.min_le_right _ _) q3
  have z0 : g_rZ 0 (some ((0 : Int32), v)) = some (z_g false, v) := rfl
  have z1 : g_rZ 1 (some ((1 : Int32), v)) = some (z_g true, v) := rfl
  unfold f_Ch_namesOwnComponent z_nown
  rw [x_gR, V.R (by decide), h4.1, x_gI, how, x_gI, n1, z0, z1]
  cases hM : z_mng nw x.2.1 tc t with
  | none => rw [if_pos (show z_ppE none < 0 from by decide)]
  | some mm =>
    cases mm with
    | inr k => rw [if_pos (show z_ppE (some (.inr k)) < 0 from (by decide : (-1 : Int32) < 0))]
    | inl k =>
      have hk := z_mng_lt.1 k hM
      rw [if_neg (show ¬ z_ppE (some (.inl k)) < 0 from by show ¬ Int32.ofNat k < 0; rw [show (0 : Int32) = Int32.ofNat 0 from rfl, x_lt (by omega) (by omega)]; omega), V.count S]
      show _ = some (z_g (decide ((z_sv x s).1 < x.2.1.length) && ((z_rch nw x tc (z_sv x s).1).testBit (z_sv x s).1 && (z_tog x.2.1.length (z_rch nw x tc) (z_sv x s).1).testBit k)), v)
      by_cases w : (z_sv x s).1 < x.2.1.length
      · rw [Nat.min_eq_left (Nat.le_of_lt w), if_neg (by rw [x_le (by omega) (by omega)]; omega), V.part S w, x_gI, (P2 _ w).1, decide_eq_true w, Bool.true_and]
        cases hb : (z_rch nw x tc (z_sv x s).1).testBit (z_sv x s).1 with
        | false => rw [if_pos (show z_g false = 0 from rfl), Bool.false_and]
        | true =>
          rw [if_neg (by decide), V.part S w, x_gI, C.1 _ w, x_gR, V.2.1, x_gR, V.R (by decide), qA.2.2.2.1.1, x_gI, n1, hM, show z_ppE (some (.inl k)) = Int32.ofNat k from rfl, x_aR (by omega) (by rw [V.ln, qA.2.2.2.2.1]; omega), V.AR, (qp k hk).1, x_gI, C.1 _ hk, Bool.true_and]
          obtain ⟨c1, c2, c3⟩ := z_cmp_cls (nw := nw) (tc := tc) q3
          have d1 := c2 _ w
          have d2 := c2 _ hk
          by_cases e : (z_cmp nw x tc).1 (z_sv x s).1 = (z_cmp nw x tc).1 k
          · rw [if_pos (by rw [e]), (c1 _ _ w hk).mp e]
          · rw [if_neg (by rw [x_eq (by omega) (by omega)]; exact e)]
            cases ht : (z_tog x.2.1.length (z_rch nw x tc) (z_sv x s).1).testBit k with
            | true => exact absurd ((c1 _ _ w hk).mpr ht) e
            | false => rfl
      · rw [Nat.min_eq_right (by omega), if_pos (by rw [x_le (by omega) (by omega)]; exact Nat.le_refl _), decide_eq_false w, Bool.false_and]
/-- source a stands in selection s and names the component of its owner -/
def E_ow (pl nw : Nat → Nat) (wd : Nat → Int64) (b : Nat → Nat) (x : z_Qu) (tc : Nat) (u : g_St) (a s : Nat) : Prop := ∃ sl t, q_so (z_sv x s).2 sl t ∧ E_so pl wd u a (some ((b 8 + s) * 64 + 8)) (z_oc sl) t ∧ z_nown nw x tc (z_sv x s).1 t = true
def E_cg (pl nw : Nat → Nat) (wd : Nat → Int64) (b : Nat → Nat) (x : z_Qu) (tc : Nat) (u : g_St) (N : Nat) (v : g_St) : Prop := ∀ s, s < (z_sels x).length → ∃ k, g_I v 648 ((b 8 + s) * 64 + 8) = Int32.ofNat k ∧ k ≤ N ∧ (0 < k ↔ ∃ a, b 9 ≤ a ∧ a < b 9 + N ∧ E_ow pl nw wd b x tc u a s) ∧ (1 < k ↔ ∃ a a', b 9 ≤ a ∧ a < a' ∧ a' < b 9 + N ∧ E_ow pl nw wd b x tc u a s ∧ E_ow pl nw wd b x tc u a' s)
theorem k_cg (NM : z_NM n kd wd vl nw nv) (S : E_S pl wd c A O b x tc cols xs ys u0) (W : z_wqu kd q x) (hq : q ≤ n) {s11 : g_St} (V11 : E_V c tc u0 s11) (N11 : E_ns n kd nw wd b x tc u0 s11) (P11 : E_np2 b x.2.1.length (z_rch nw x tc) x.2.1.length s11) (C11 : E_oc c b nw x tc s11) (h0 : ∀ s, s < (z_sels x).length → g_I s11 648 ((b 8 + s) * 64 + 8) = 0) : ∃ v, f_Ch_countNamings (some 3) s11 = some ((), v) ∧ E_V c tc u0 v ∧ E_fk [648] [] s11 v ∧ E_cg pl nw wd b x tc u0 xs.length v := by
  obtain ⟨Q, ⟨r1, r2⟩, ⟨l1, l2⟩, ⟨x1, x2⟩, y1, t1, t2, t3⟩ := S
  have SS : E_S pl wd c A O b x tc cols xs ys u0 := ⟨Q, ⟨r1, r2⟩, ⟨l1, l2⟩, ⟨x1, x2⟩, y1, t1, t2, t3⟩
  have hl := l1.len
  have q3 := Q.1.2.2.1
  unfold f_Ch_countNamings
  refine z_cl xs.length (fun f i s => f_Ch_countNamings_2 f (some 3) (Int32.ofNat i) s) (fun v => some ((), v)) (fun i s => E_V c tc u0 s ∧ E_fk [648] [] s11 s ∧ E_cg pl nw wd b x tc u0 i s) (fun v => E_V c tc u0 v ∧ E_fk [648] [] s11 v ∧ E_cg pl nw wd b x tc u0 xs.length v) ?_ ?_ xs.length 0 s11 200000 (by omega) (by omega) ⟨V11, E_fk.re, fun s hs => ⟨0, h0 s hs, Nat.le_refl _, ⟨fun h => by omega, fun ⟨a, a1, a2, _⟩ => by omega⟩, ⟨fun h => by omega, fun ⟨a, a', a1, a2, a3, _⟩ => by omega⟩⟩⟩
  · rintro f s ⟨V, F, D⟩
    refine ⟨s, ?_, V, F, D⟩
    show f_Ch_countNamings_2 (f + 1) (some 3) (Int32.ofNat xs.length) s = _
    rw [f_Ch_countNamings_2, x_gR, V.2.1, x_gR, V.R (by decide), r1, x_nn, k_size (l1.fk V.1 (by decide) (by decide)), x_c, if_pos (by rw [x_le (by omega) (by omega)]; exact Nat.le_refl _)]
  · rintro f i s hi ⟨V, F, D⟩
    have li := l1.fk V.1 (by decide) (by decide)
    obtain ⟨sx, sl, t, d1, d2, d3⟩ := k_src9 Q (a := b 9 + i) (by omega) (by omega)
    obtain ⟨p, rr, hr, hw⟩ := z_sv_w W hq d1
    have isn := (d2.isn hw hr).1
    have Ps : E_np2 b x.2.1.length (z_rch nw x tc) x.2.1.length s := fun k hk => by rw [F.2.1 _ _ (by decide), F.2.1 _ _ (by decide)]; exact P11 k hk
    have Cs : E_oc c b nw x tc s := ⟨fun k hk => by rw [F.2.1 _ _ (by decide)]; exact C11.1 k hk, by rw [F.2.1 _ _ (by decide)]; exact C11.2⟩
    have ev := k_own SS W hq V (N11.fk F (by decide) (by decide)) Ps Cs (a := b 9 + i) (by omega) (by omega) d1 d2 d3
    have oth : ∀ s', E_ow pl nw wd b x tc u0 (b 9 + i) s' → s' = sx ∧ z_nown nw x tc (z_sv x sx).1 t = true := by
      rintro s' ⟨sl', t', g3, g4, g5⟩
      have es : s' = sx := by
        have := g4.1.symm.trans d3.1
        have := Option.some.inj this
        omega
      rw [es] at g3 g5
      have en := E_so.tok NM d3 g4 isn (g3.isn hw hr).1
      exact ⟨es, by rw [z_nown_nw en]; exact g5⟩
    have st : f_Ch_countNamings_2 (f + 1) (some 3) (Int32.ofNat i) s = if z_g (z_nown nw x tc (z_sv x sx).1 t) = 0 then f_Ch_countNamings_2 f (some 3) (Int32.ofNat (i + 1)) s else f_Ch_countNamings_2 f (some 3) (Int32.ofNat (i + 1)) (g_setI s 648 ((b 8 + sx) * 64 + 8) (g_I s 648 ((b 8 + sx) * 64 + 8) + 1)) := by
      rw [f_Ch_countNamings_2, x_gR, V.2.1, x_gR, V.R (by decide), r1, x_nn, k_size li, x_c, if_neg (by rw [x_le (by omega) (by omega)]; omega), x_gR, V.2.1, x_gR, V.R (by decide), r1, x_nn, k_get li hi, x_c, x2 i hi, x_castS (by omega), x_nn, ev, x_c, x_p1]
      congr 1
      rw [x_gR, V.R (by decide), d3.1, x_gI, x_pI]
    -- what does not change
    have keep : ∀ s', s' < (z_sels x).length → ¬ E_ow pl nw wd b x tc u0 (b 9 + i) s' → ∀ k, k ≤ i ∧ (0 < k ↔ ∃ a, b 9 ≤ a ∧ a < b 9 + i ∧ E_ow pl nw wd b x tc u0 a s') ∧ (1 < k ↔ ∃ a a', b 9 ≤ a ∧ a < a' ∧ a' < b 9 + i ∧ E_ow pl nw wd b x tc u0 a s' ∧ E_ow pl nw wd b x tc u0 a' s') → k ≤ i + 1 ∧ (0 < k ↔ ∃ a, b 9 ≤ a ∧ a < b 9 + (i + 1) ∧ E_ow pl nw wd b x tc u0 a s') ∧ (1 < k ↔ ∃ a a', b 9 ≤ a ∧ a < a' ∧ a' < b 9 + (i + 1) ∧ E_ow pl nw wd b x tc u0 a s' ∧ E_ow pl nw wd b x tc u0 a' s') := by
      rintro s' hs' no k ⟨k1, k2, k3⟩
      refine ⟨by omega, k2.trans ⟨fun ⟨a, a1, a2, a3⟩ => ⟨a, a1, by omega, a3⟩, fun ⟨a, a1, a2, a3⟩ => ⟨a, a1, ?_, a3⟩⟩, k3.trans ⟨fun ⟨a, a', a1, a2, a3, a4⟩ => ⟨a, a', a1, a2, by omega, a4⟩, fun ⟨a, a', a1, a2, a3, a4, a5⟩ => ⟨a, a', a1, a2, ?_, a4, a5⟩⟩⟩
      · by_cases e : a = b 9 + i
        · rw [e] at a3; exact absurd a3 no
        · omega
      · by_cases e : a' = b 9 + i
        · rw [e] at a5; exact absurd a5 no
        · omega
    cases hz : z_nown nw x tc (z_sv x sx).1 t with
    | false =>
      rw [hz, if_pos (show z_g false = 0 from rfl)] at st
      refine ⟨s, st, V, F, fun s' hs' => ?_⟩
      obtain ⟨k, k0, k1⟩ := D s' hs'
      exact ⟨k, k0, keep s' hs' (fun h => by have := (oth s' h).2; rw [hz] at this; cases this) k k1⟩
    | true =>
      rw [hz, if_neg (by decide)] at st
      have me : E_ow pl nw wd b x tc u0 (b 9 + i) sx := ⟨sl, t, d2, d3, hz⟩
      refine ⟨_, st, V.pI (by decide) (by decide) _ _, F.pI (by decide) _ _, fun s' hs' => ?_⟩
      obtain ⟨k, k0, k1⟩ := D s' hs'
      by_cases e : s' = sx
      · rw [e] at k0 k1 ⊢
        obtain ⟨k1, k2, k3⟩ := k1
        refine ⟨k + 1, by rw [x_I_I, if_pos ⟨rfl, rfl⟩, k0, x_p1], by omega, ⟨fun _ => ⟨b 9 + i, by omega, by omega, me⟩, fun _ => by omega⟩, ⟨fun h => ?_, fun ⟨a, a', a1, a2, a3, a4, a5⟩ => ?_⟩⟩
        · obtain ⟨a, a1, a2, a3⟩ := k2.mp (by omega)
          exact ⟨a, b 9 + i, a1, a2, by omega, a3, me⟩
        · have := k2.mpr ⟨a, a1, by omega, a4⟩
          omega
      · exact ⟨k, by rw [x_I_I, if_neg (fun q => by have := q.2; omega)]; exact k0, keep s' hs' (fun h => e (oth s' h).1) k k1⟩
end
