/-! THE CHECK: shapes (reference) -/
def z_trd (X : z_Pa) : Bool := X.2.2.2.2.1.isSome || X.2.2.2.2.2.isSome
/-- a selection of a part is looked at -/
def z_sh1 (nw pl : Nat → Nat) (x : z_Qu) (tc : Nat) (r : Nat → Nat) (k : Nat) (a : Option (Nat × Nat) × Bool) (y : z_Se) : Option (Nat × Nat) × Bool :=
  (if (r k).testBit k = true then z_bar nw pl x.2.1 tc (z_tog x.2.1.length r k) y (z_ntb 3 (decide (¬ y.2.1.length = (x.2.1.getD k z_pa0).2.1.length)) a.1 (pl y.1)) else z_ntb 3 (decide (¬ y.2.1.length = (x.2.1.getD k z_pa0).2.1.length)) a.1 (pl y.1), a.2 && decide (z_tnm nw x.2.1 tc k y ≤ 1))
def z_sh2 (nw pl : Nat → Nat) (x : z_Qu) (tc : Nat) (r : Nat → Nat) (k : Nat) (a : Option (Nat × Nat) × Bool) : Option (Nat × Nat) :=
  z_ntb 8 (!(r k).testBit k && z_trd (x.2.1.getD k z_pa0)) (z_ntb 7 ((r k).testBit k && (!a.2 && ((x.2.1.getD k z_pa0).2.2.2.1.any id || z_trd (x.2.1.getD k z_pa0)))) (z_ntb 6 ((r k).testBit k && decide (¬ z_nmd nw x.2.1 tc ((x.2.1.getD k z_pa0).2.2.1.getD 0 z_se0) &&& z_tog x.2.1.length r k = 0)) (z_ntb 4 (((x.2.1.getD k z_pa0).2.2.2.1.any fun b => !b) && (x.2.1.getD k z_pa0).2.2.2.1.any id) a.1 (pl (x.2.1.getD k z_pa0).1)) (pl (x.2.1.getD k z_pa0).1)) (pl (x.2.1.getD k z_pa0).1)) (pl (x.2.1.getD k z_pa0).1)
def z_shp (nw pl : Nat → Nat) (x : z_Qu) (tc : Nat) (r : Nat → Nat) (a : Option (Nat × Nat)) (k : Nat) : Option (Nat × Nat) := z_sh2 nw pl x tc r k ((x.2.1.getD k z_pa0).2.2.1.foldl (z_sh1 nw pl x tc r k) (a, decide (z_tog x.2.1.length r k = 2 ^ k)))
section
variable {n : Nat} {kd pl nw nv : Nat → Nat} {wd vl : Nat → Int64}
theorem z_ntq {u0 : g_St} {a : Option (Nat × Nat)} (ha : M_nt u0 a) {m p : Nat} (h1 : 1 ≤ m) (h2 : m ≤ 8) (h3 : p ≤ 400) (b : Bool) : ∃ v, z_W [833, 897] [] u0 v ∧ M_nt v (z_ntb m b a p) ∧ (b = true → f_M_note (some 1) (Int32.ofNat m) (Int32.ofNat p) u0 = some ((), v)) ∧ (b = false → v = u0) := by
  cases b with
  | false => exact ⟨u0, z_W.re, ha, fun e => (by cases e), fun _ => rfl⟩
  | true =>
    obtain ⟨v, n1, n2, n3⟩ := b_nt ha h1 h2 h3
    exact ⟨v, n3, n2, fun _ => n1, fun e => by cases e⟩
theorem z_gz {b : Bool} : (z_g b = 0) = (b = false) := by cases b <;> decide
theorem b_sh2 (k2 : Option Nat → Int32 → g_St → Option (Unit × g_St)) (H : z_H n kd) (hpl : ∀ i, i ≤ n → pl i ≤ 400) {u0 : g_St} {C : Nat → Nat} {x : z_Qu} {tc : Nat} {cols : Nat → Nat} (K : M_ck n kd pl vl u0 C x tc cols) (hp : ∀ k, k < x.2.1.length → z_pnm n kd (x.2.1.getD k z_pa0)) (hA : M_all n kd nw u0 C x tc cols) {r : Nat → Nat} (R : M_rh u0 x.2.1.length r) {k : Nat} (hk : k < x.2.1.length) (h1s : 1 ≤ (x.2.1.getD k z_pa0).2.2.1.length) {a : Option (Nat × Nat)} {l : Bool} (ha : M_nt u0 a) {f : Nat} : ∃ u', f_M_checkShapes_42 k2 (f + 1) (some 1) (Int32.ofNat k) (Int32.ofNat (pl (x.2.1.getD k z_pa0).1)) (z_g l) (Int32.ofNat (x.2.1.getD k z_pa0).2.2.1.length) u0 = k2 (some 1) (Int32.ofNat (k + 1)) u' ∧ z_W [833, 897] [] u0 u' ∧ M_nt u' (z_sh2 nw pl x tc r k (a, l)) := by
  have q4 := K.2.2.1.2.2.2.1
  have lim : z_lim C := K.2.2.1.2.2.2.2.2.2.2.2.2.2
  have N0 : M_np u0 x.2.1.length := ⟨K.1, by rw [K.2.2.1.1 1153 (by decide), K.2.2.1.2.2.1], q4⟩
  have pv := K.2.2.1.2.2.2.2.1 k hk
  have l4 := pv.2.2.2.2.2.2.2.2.2.2.2.2
  have pk := hp k hk
  have pl4 : pl (x.2.1.getD k z_pa0).1 ≤ 400 := hpl _ (by have := pk.1.1; omega)
  have tl := z_tog_lt (m := x.2.1.length) (r := r) (p := k) (by omega) q4
  have Au : ∀ {u : g_St}, z_W [833, 897] [] u0 u → ∀ a, g_AI u a = g_AI u0 a := fun w a => (w.2.2.2.2.2.2.2.2 a (by intro h; cases h)).1
  have Ru : ∀ {u : g_St}, z_W [833, 897] [] u0 u → M_rh u x.2.1.length r := fun w k hk => by rw [Au w]; exact R k hk
  have nmv : ∀ {u : g_St}, z_W [833, 897] [] u0 u → f_M_named (some 1) (Int32.ofNat (z_tot (x.2.1.take k))) 1 u = some (Int32.ofNat (z_nmd nw x.2.1 tc ((x.2.1.getD k z_pa0).2.2.1.getD 0 z_se0)), u) ∧ z_nmd nw x.2.1 tc ((x.2.1.getD k z_pa0).2.2.1.getD 0 z_se0) < 16 := fun w => by
    have Kw := K.W w (by decide) (by decide) (by decide) (by decide)
    have se := (Kw.2.2.1.2.2.2.2.1 k hk).2.2.2.2.2.1.2 0 (by omega)
    have rs := (hA.W w (by decide)).sel hk (show 0 < (x.2.1.getD k z_pa0).2.2.1.length by omega)
    rw [Nat.add_zero] at se rs
    exact b_nmd (nw := nw) Kw rs se
  generalize hX : x.2.1.getD k z_pa0 = X at *
  generalize hrec : (r k).testBit k = rc
  generalize hpX : pl X.1 = pX at *
  -- faults 4, 6, 7, 8
  obtain ⟨v4, a41, a42, a43, a44⟩ := z_ntq ha (m := 4) (p := pX) (by decide) (by decide) pl4 ((X.2.2.2.1.any fun b => !b) && X.2.2.2.1.any id)
  obtain ⟨v6, a61, a62, a63, a64⟩ := z_ntq a42 (m := 6) (p := pX) (by decide) (by decide) pl4 (rc && decide (¬ z_nmd nw x.2.1 tc (X.2.2.1.getD 0 z_se0) &&& z_tog x.2.1.length r k = 0))
  obtain ⟨v7, a71, a72, a73, a74⟩ := z_ntq a62 (m := 7) (p := pX) (by decide) (by decide) pl4 (rc && (!l && (X.2.2.2.1.any id || z_trd X)))
  obtain ⟨v8, a81, a82, a83, a84⟩ := z_ntq a72 (m := 8) (p := pX) (by decide) (by decide) pl4 (!rc && z_trd X)
  have W6 := a41.trans a61
  have W7 := W6.trans a71
  have ir : ∀ {u : g_St}, z_W [833, 897] [] u0 u → f_M_isRecursive (some 1) (Int32.ofNat k) u = some (z_g rc, u) := fun w => by
    have := b_irc (N0.W w (by decide)) (Ru w) hk
    rw [hrec] at this
    exact this
  have s248 : ∀ u, u = v7 → f_M_checkShapes_248 k2 (some 1) (Int32.ofNat k) (Int32.ofNat pX) (z_g (z_trd X)) u = k2 (some 1) (Int32.ofNat (k + 1)) v8 := fun u e => by
    rw [e]
    unfold f_M_checkShapes_248
    rw [x_nn, ir W7, x_c]
    cases rc with
    | true => rw [if_neg (by decide), x_p1, a84 rfl]
    | false =>
      rw [if_pos (by decide)]
      cases ht : z_trd X with
      | false => rw [if_pos (by decide), x_p1, a84 (by rw [ht]; rfl)]
      | true => rw [if_neg (by decide), x_nn, show (8 : Int32) = Int32.ofNat 8 from rfl, a83 (by rw [ht]; rfl), x_c, x_p1]
  have s241 : (rc && (!l && (X.2.2.2.1.any id || z_trd X))) = true → f_M_checkShapes_241 k2 (some 1) (Int32.ofNat k) (Int32.ofNat pX) (z_g (z_trd X)) v6 = k2 (some 1) (Int32.ofNat (k + 1)) v8 := fun e => by
    unfold f_M_checkShapes_241
    rw [x_nn, show (7 : Int32) = Int32.ofNat 7 from rfl, a73 e, x_c]
    exact s248 v7 rfl
  have s215 : f_M_checkShapes_215 k2 (some 1) (Int32.ofNat k) (Int32.ofNat pX) (z_g l) (z_g (z_trd X)) v6 = k2 (some 1) (Int32.ofNat (k + 1)) v8 := by
    have hm := W6.fx K.1
    unfold f_M_checkShapes_215
    rw [x_nn, ir W6, x_c, x_gR, (m_at hm m_k1921).1, x_aI (by omega) (by rw [(m_at hm m_k1921).2]; omega), Au W6, pv.2.2.2.2.2.2.2.2.1]
    cases hrc : rc with
    | false => rw [if_pos (by decide)]; exact s248 v6 (a74 (by rw [hrc]; rfl)).symm
    | true =>
      rw [if_neg (by decide)]
      cases hl : l with
      | true => rw [if_neg (by decide)]; exact s248 v6 (a74 (by rw [hrc, hl]; rfl)).symm
      | false =>
        rw [if_pos (by decide)]
        cases hu : X.2.2.2.1.any id with
        | true => rw [if_neg (by decide)]; exact s241 (by rw [hrc, hl, hu]; rfl)
        | false =>
          rw [if_pos (by decide)]
          by_cases ht : z_trd X = true
          · rw [if_neg (by rw [ht]; decide)]; exact s241 (by rw [hrc, hl, hu, ht]; rfl)
          · have ht' : z_trd X = false := Bool.eq_false_iff.mpr ht
            rw [if_pos (by rw [ht']; decide)]
            exact s248 v6 (a74 (by rw [hrc, hl, hu, ht']; rfl)).symm
  have s178 : f_M_checkShapes_178 k2 (some 1) (Int32.ofNat k) (Int32.ofNat pX) (z_g l) (z_g (z_trd X)) v4 = k2 (some 1) (Int32.ofNat (k + 1)) v8 := by
    have hm := a41.fx K.1
    obtain ⟨nm1, nm2⟩ := nmv a41
    have tg := b_tog (N0.W a41 (by decide)) (Ru a41) hk
    have e := z_and16' nm2 tl
    unfold f_M_checkShapes_178
    rw [x_nn, ir a41, x_c, x_gR, (m_at hm m_k1985).1, x_aI (by omega) (by rw [(m_at hm m_k1985).2]; omega), Au a41, pv.2.2.2.2.1, x_nn, nm1, x_c, x_nn, tg, x_c]
    cases hrc : rc with
    | false => rw [if_pos (by decide), ← a64 (by rw [hrc]; rfl)]; exact s215
    | true =>
      rw [if_neg (by decide)]
      by_cases w : z_nmd nw x.2.1 tc (X.2.2.1.getD 0 z_se0) &&& z_tog x.2.1.length r k = 0
      · rw [if_pos (by rw [e]; exact w), ← a64 (by rw [hrc, decide_eq_false (fun q => q w)]; rfl)]; exact s215
      · rw [if_neg (by rw [e]; exact w), x_nn, show (6 : Int32) = Int32.ofNat 6 from rfl, a63 (by rw [hrc, decide_eq_true w]; rfl), x_c]; exact s215
  have s154 : f_M_checkShapes_154 k2 (some 1) (Int32.ofNat k) (Int32.ofNat pX) (z_g l) v4 = k2 (some 1) (Int32.ofNat (k + 1)) v8 := by
    have hm := a41.fx K.1
    have e1 := pv.2.2.2.2.2.2.2.2.2.1
    have e2 := pv.2.2.2.2.2.2.2.2.2.2.1
    unfold f_M_checkShapes_154
    rw [x_gR, (m_at hm m_k1409).1, x_aI (by omega) (by rw [(m_at hm m_k1409).2]; omega), Au a41, x_gR, (m_at hm m_k1601).1, x_aI (by omega) (by rw [(m_at hm m_k1601).2]; omega), Au a41]
    cases hs : X.2.2.2.2.1 with
    | some y =>
      rw [hs] at e1
      have t1 : z_trd X = true := by unfold z_trd; rw [hs]; rfl
      rw [t1] at s178
      rw [e1.1, if_pos (by cases y.1 <;> decide)]
      exact s178
    | none =>
      rw [hs] at e1
      rw [show g_AI u0 1428 k = 0 from e1, if_neg (by decide)]
      cases hc : X.2.2.2.2.2 with
      | none =>
        rw [hc] at e2
        have t1 : z_trd X = false := by unfold z_trd; rw [hs, hc]; rfl
        rw [t1] at s178
        rw [show g_AI u0 1620 k = -1 from e2, if_pos rfl]
        exact s178
      | some y =>
        rw [hc] at e2
        have t1 : z_trd X = true := by unfold z_trd; rw [hs, hc]; rfl
        rw [t1] at s178
        have hn := H.2.1
        rw [e2.1, if_neg (z_oc_n (by have := (pk.2.2.2 y hc).1.1; omega))]
        exact s178
  refine ⟨v8, ?_, W7.trans a81, ?_⟩
  · have hm := K.1
    rw [f_M_checkShapes_42, x_gR, (m_at hm m_k2049).1, x_aI (by omega) (by rw [(m_at hm m_k2049).2]; omega), pv.2.2.2.2.2.2.1, if_pos (by rw [x_le (by omega) (by omega)]; exact Nat.le_refl _), x_gR, (m_at hm m_k1857).1, x_aI (by omega) (by rw [(m_at hm m_k1857).2]; omega), pv.2.2.2.2.2.2.2.1, x_gR, (m_at hm m_k1921).1, x_aI (by omega) (by rw [(m_at hm m_k1921).2]; omega), pv.2.2.2.2.2.2.2.2.1]
    by_cases h1 : (X.2.2.2.1.any fun b => !b) = true
    · rw [if_neg (by rw [h1]; decide)]
      by_cases h2 : X.2.2.2.1.any id = true
      · rw [if_neg (by rw [h2]; decide), x_nn, show (4 : Int32) = Int32.ofNat 4 from rfl, a43 (by rw [h1, h2]; rfl), x_c]
        exact s154
      · have h2' := Bool.eq_false_iff.mpr h2
        rw [if_pos (by rw [h2']; decide), ← a44 (by rw [h1, h2']; rfl)]
        exact s154
    · have h1' := Bool.eq_false_iff.mpr h1
      rw [if_pos (by rw [h1']; decide), ← a44 (by rw [h1']; rfl)]
      exact s154
  · unfold z_sh2
    rw [hX, hrec, hpX]
    exact a82
end
