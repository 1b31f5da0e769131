/-! THE ENGINE'S CHECK: levels of conditions; the check whole -/
section
variable {n q : Nat} {kd pl nw nv : Nat → Nat} {wd vl : Nat → Int64} {c : z_Cx} {A O : Nat} {b : Nat → Nat} {x : z_Qu} {tc : Nat} {cols : Nat → Nat} {xs ys : List Nat} {u0 : g_St}
/-- the levels, of the first N terms -/
def E_lvN (n : Nat) (kd pl nw : Nat → Nat) (wd : Nat → Int64) (b : Nat → Nat) (x : z_Qu) (ys : List Nat) (N : Nat) (u v : g_St) : Prop := (∀ k, g_I u 394 k = 0 → ∃ L, g_I v 394 k = Int32.ofNat L ∧ (L = 0 ∨ ∃ i, i < ys.length ∧ ∃ s wi t sl, E_tff n kd pl wd b x u (ys.getD i 0) s wi (some k) t ∧ z_slt nw (z_sv x s).2.2.2.1 t wi = some sl ∧ sl ≠ 3 ∧ L = sl + 1)) ∧ ∀ i, i < N → ∀ s wi k t sl, E_tff n kd pl wd b x u (ys.getD i 0) s wi (some k) t → z_slt nw (z_sv x s).2.2.2.1 t wi = some sl → sl ≠ 3 → ∃ L, g_I v 394 k = Int32.ofNat L ∧ sl + 1 ≤ L ∧ L ≤ 4
theorem E_tff.lv {a s t k : Nat} {wi : Option Nat} (T : E_tff n kd pl wd b x u0 a s wi (some k) t) : g_I u0 394 k = 0 := by
  obtain ⟨-, -, -, t4, -⟩ := T
  cases wi with
  | none =>
    rcases t4 with h | ⟨k', h, -, g⟩
    · cases h
    · cases h; exact g
  | some w =>
    obtain ⟨k', j, h, -, -, ⟨-, g⟩, -⟩ := t4
    cases h; exact g
theorem E_tff.sl3 (S : E_S pl wd c A O b x tc cols xs ys u0) {a s t sl : Nat} {wi top : Option Nat} (T : E_tff n kd pl wd b x u0 a s wi top t) (h : z_slt nw (z_sv x s).2.2.2.1 t wi = some sl) : sl ≤ 3 := by
  obtain ⟨i, k, j, s1, s2, s3⟩ := k_sel S.1 T.1
  have := s3.2.2.2.2.2.1.2.1
  rcases z_slt_lt h with h | ⟨h, -⟩ <;> omega
theorem k_lv (S : E_S pl wd c A O b x tc cols xs ys u0) (W : z_wqu kd q x) (hq : q ≤ n) {v : g_St} (D : E_D n kd pl nw wd c b x tc cols xs ys u0 v) (h394 : ∀ k, g_I v 394 k = g_I u0 394 k) : ∃ v', f_Ch_levelConditions (some 3) v = some ((), v') ∧ E_fk [394] [] v v' ∧ E_lvN n kd pl nw wd b x ys ys.length u0 v' := by
  obtain ⟨Q, ⟨r1, r2⟩, ⟨l1, l2⟩, ⟨x1, x2⟩, y1, t1, t2, t3⟩ := S
  have SS : E_S pl wd c A O b x tc cols xs ys u0 := ⟨Q, ⟨r1, r2⟩, ⟨l1, l2⟩, ⟨x1, x2⟩, y1, t1, t2, t3⟩
  have hl := l2.len
  unfold f_Ch_levelConditions
  refine z_cl ys.length (fun f i s => f_Ch_levelConditions_2 f (some 3) (Int32.ofNat i) s) (fun s => some ((), s)) (fun i s => E_fk [394] [] v s ∧ E_lvN n kd pl nw wd b x ys i u0 s) (fun s => E_fk [394] [] v s ∧ E_lvN n kd pl nw wd b x ys ys.length u0 s) ?_ ?_ ys.length 0 v 200000 (by omega) (by omega) ⟨E_fk.re, fun k hk => ⟨0, by rw [h394 k, hk]; rfl, Or.inl rfl⟩, fun i hi => by omega⟩
  · rintro f s ⟨F, L⟩
    have V := (D.fk (F.mono (by decide) (by decide))).1
    refine ⟨s, ?_, F, L⟩
    show f_Ch_levelConditions_2 (f + 1) (some 3) (Int32.ofNat ys.length) s = _
    rw [f_Ch_levelConditions_2, x_gR, V.2.1, x_gR, V.R (by decide), r2, x_nn, k_size (l2.fk V.1 (by decide) (by decide)), x_c, if_pos (by rw [x_le (by omega) (by omega)]; exact Nat.le_refl _)]
  · rintro f i s hi ⟨F, L1, L2⟩
    have Ds := D.fk (F.mono (by decide) (by decide) : E_fk [195, 394] [] v s)
    have V := Ds.1
    have li := l2.fk V.1 (by decide) (by decide)
    have ha : ys.getD i 0 ∈ ys := z_getD_m hi
    obtain ⟨ja, ja1, ja2, ja3, ja4⟩ := (y1 _).mp ha
    rw [ja3] at ja4
    obtain ⟨s0, wi0, top0, t0, T0⟩ := k_tfx (n := n) Q W hq ja1 ja2 ja4
    rw [← ja3] at T0
    have r0 := (Ds.2.2.1.1 _ ha s0 wi0 top0 t0 T0).1
    have tp : g_R s 203 (ys.getD i 0) = top0 := by rw [V.R (by decide)]; exact T0.2.2.1
    have st : f_Ch_levelConditions_2 (f + 1) (some 3) (Int32.ofNat i) s = if top0 = none then f_Ch_levelConditions_2 f (some 3) (Int32.ofNat (i + 1)) s else if g_R s 523 (ys.getD i 0) = none then f_Ch_levelConditions_2 f (some 3) (Int32.ofNat (i + 1)) s else g_gI s 394 top0 fun i13 => g_gI s 73 (g_R s 523 (ys.getD i 0)) fun i15 => g_pI s 394 top0 (if i13 < (i15 + 1) then (i15 + 1) else i13) fun s16 => f_Ch_levelConditions_2 f (some 3) (Int32.ofNat (i + 1)) s16 := by
      rw [f_Ch_levelConditions_2, x_gR, V.2.1, x_gR, V.R (by decide), r2, x_nn, k_size li, x_c, if_neg (by rw [x_le (by omega) (by omega)]; omega), x_gR, V.2.1, x_gR, V.R (by decide), r2, x_nn, k_get li hi, x_c, x_castS (by rw [ja3]; omega), x_gR, tp, x_gR, x_gR, tp, x_gR, tp, x_p1]
      rfl
    have skip : (∀ s' wi k t sl, E_tff n kd pl wd b x u0 (ys.getD i 0) s' wi (some k) t → z_slt nw (z_sv x s').2.2.2.1 t wi = some sl → False) → E_lvN n kd pl nw wd b x ys (i + 1) u0 s := by
      intro no
      refine ⟨L1, fun i' hi' s' wi k t sl T h g => ?_⟩
      by_cases e : i' = i
      · rw [e] at T; exact (no s' wi k t sl T h).elim
      · exact L2 i' (by omega) s' wi k t sl T h g
    cases htop : top0 with
    | none =>
      rw [htop, if_pos rfl] at st
      refine ⟨s, st, F, skip (fun s' wi k t sl T _ => ?_)⟩
      have := T0.2.2.1.symm.trans T.2.2.1
      rw [htop] at this
      cases this
    | some k0 =>
      rw [htop] at T0 r0
      rw [htop, if_neg (Option.some_ne_none _)] at st
      obtain ⟨sl0, hs0⟩ : ∃ o, z_slt nw (z_sv x s0).2.2.2.1 t0 wi0 = o := ⟨_, rfl⟩
      cases sl0 with
      | none =>
        rw [hs0] at r0
        rw [r0, if_pos (show E_srO u0 _ _ none = none from rfl)] at st
        refine ⟨s, st, F, skip (fun s' wi k t sl T h => ?_)⟩
        have r' := (Ds.2.2.1.1 _ ha s' wi (some k) t T).1
        obtain ⟨j, tq, j1, -⟩ := k_sro (nw := nw) (tc := tc) SS W hq T h
        rw [h, j1, r0] at r'
        cases r'
      | some sl0 =>
        obtain ⟨j, tq, j1, j2, j3, j4, j5, j6⟩ := k_sro (nw := nw) (tc := tc) SS W hq T0 hs0
        rw [hs0, j1] at r0
        obtain ⟨L, e1, e2⟩ := L1 k0 T0.lv
        have sl3 := E_tff.sl3 (nw := nw) SS T0 hs0
        have L3 : L ≤ 4 := by
          rcases e2 with e | ⟨i', -, s', wi', t', sl', T', h', -, e⟩
          · omega
          · have := E_tff.sl3 (nw := nw) SS T' h'
            omega
        obtain ⟨P, hP⟩ : ∃ P, P = if sl0 = 3 then 0 else sl0 + 1 := ⟨_, rfl⟩
        have hP4 : P ≤ 4 := by rw [hP]; split <;> omega
        have i15 : g_I s 73 (j * 64 + 9) + 1 = Int32.ofNat P := by
          rw [V.I (by decide), j6.2.1, hP]
          by_cases w : sl0 = 3
          · rw [if_pos w, if_pos w]; rfl
          · rw [if_neg w, if_neg w]; exact x_p1 sl0
        have nv : (if Int32.ofNat L < Int32.ofNat P then Int32.ofNat P else Int32.ofNat L) = Int32.ofNat (max L P) := by
          by_cases w : L < P
          · rw [if_pos (by rw [x_lt (by omega) (by omega)]; exact w), Nat.max_eq_right (by omega)]
          · rw [if_neg (by rw [x_lt (by omega) (by omega)]; exact w), Nat.max_eq_left (by omega)]
        rw [r0, if_neg (Option.some_ne_none _), x_gI, e1, x_gI, i15, nv, x_pI] at st
        refine ⟨_, st, F.pI (by decide) _ _, fun k hk => ?_, fun i' hi' s' wi k t sl T h g => ?_⟩
        · by_cases e : k = k0
          · rw [e]
            refine ⟨max L P, x_Iss _ _ _ _, ?_⟩
            by_cases w : L < P
            · rw [Nat.max_eq_right (by omega)]
              have w3 : sl0 ≠ 3 := fun e => by rw [if_pos e] at hP; omega
              rw [if_neg w3] at hP
              exact Or.inr ⟨i, hi, s0, wi0, t0, sl0, T0, hs0, w3, hP⟩
            · rw [Nat.max_eq_left (by omega)]
              exact e2
          · rw [x_I_I, if_neg (fun q => e q.2)]
            exact L1 k hk
        · by_cases e : i' = i
          · rw [e] at T
            have ek : k = k0 := by
              have := T0.2.2.1.symm.trans T.2.2.1
              exact (Option.some.inj this).symm
            rw [ek]
            refine ⟨max L P, x_Iss _ _ _ _, ?_⟩
            have r' := (Ds.2.2.1.1 _ ha s' wi (some k) t T).1
            obtain ⟨j', tq', k1, k2, k3, k4, k5, k6⟩ := k_sro (nw := nw) (tc := tc) SS W hq T h
            rw [h, k1, r0] at r'
            have ej : j' = j := by have := Option.some.inj r'; omega
            rw [ej] at k6
            have ei := k6.2.1.symm.trans j6.2.1
            rw [if_neg g] at ei
            have sl3' := E_tff.sl3 (nw := nw) SS T h
            by_cases w : sl0 = 3
            · rw [if_pos w] at ei
              exact absurd ei (z_oc_n (by omega))
            · rw [if_neg w] at ei hP
              have ei' : Int32.ofNat sl = Int32.ofNat sl0 := ei
              rw [x_eq (by omega) (by omega)] at ei'
              have := Nat.le_max_right L P
              exact ⟨by omega, Nat.max_le.mpr ⟨L3, hP4⟩⟩
          · obtain ⟨L', f1, f2⟩ := L2 i' (by omega) s' wi k t sl T h g
            by_cases ek : k = k0
            · rw [ek] at f1 ⊢
              refine ⟨max L P, x_Iss _ _ _ _, ?_⟩
              have f3 : sl ≤ 3 := E_tff.sl3 (nw := nw) SS T h
              have e9 := f1.symm.trans e1
              have le := Nat.le_max_left L P
              rw [x_eq (by omega) (by omega)] at e9
              exact ⟨by omega, Nat.max_le.mpr ⟨L3, hP4⟩⟩
            · exact ⟨L', by rw [x_I_I, if_neg (fun q => ek q.2)]; exact f1, f2⟩
end
