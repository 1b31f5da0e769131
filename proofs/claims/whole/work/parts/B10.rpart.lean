/-! THE CHECK: a part is resolved (reference) -/
def z_lp (g : Option (Nat × Nat) → Nat → Option (Nat × Nat)) : Nat → Nat → Option (Nat × Nat) → Option (Nat × Nat)
  | 0, _, a => a
  | d + 1, i, a => z_lp g d (i + 1) (g a i)
def z_own1 (N : Nat → Nat) (X : z_Pa) (t : Nat) : Option Nat := z_ff (fun i => decide (N (X.2.1.getD i 0) = N t)) X.2.1.length 0
def z_frs (N : Nat → Nat) (X : z_Pa) (t bf : Nat) (tr : Bool) : Bool := (tr && z_trl N X t) || (z_ff (fun i => decide (N (X.2.1.getD i 0) = N t)) bf 0).isSome
def z_pn3 (N pl : Nat → Nat) (X : z_Pa) (a : Option (Nat × Nat)) : Option (Nat × Nat) := match X.2.2.2.2.1 with
  | none => a
  | some y => z_nti2 (z_frs N X (y.2 + 5) X.2.1.length false) (z_nti2 (z_own1 N X (y.2 + 3)).isNone a (pl (y.2 + 3))) (pl (y.2 + 5))
def z_pn4 (N pl : Nat → Nat) (X : z_Pa) (a : Option (Nat × Nat)) : Option (Nat × Nat) := match X.2.2.2.2.2 with
  | none => a
  | some y => z_nti2 (z_frs N X (y + 2) X.2.1.length true) (z_nti2 (z_own1 N X y).isNone a (pl y)) (pl (y + 2))
def z_pnt (N pl : Nat → Nat) (ps : List z_Pa) (k : Nat) (a : Option (Nat × Nat)) : Option (Nat × Nat) := z_pn4 N pl (ps.getD k z_pa0) (z_pn3 N pl (ps.getD k z_pa0) (z_lp (fun a i => z_nti2 (z_frs N (ps.getD k z_pa0) ((ps.getD k z_pa0).2.1.getD i 0) i false) a (pl ((ps.getD k z_pa0).2.1.getD i 0))) ((ps.getD k z_pa0).2.1.length - 1) 1 (z_lp (fun a q => z_nti2 (decide (N (ps.getD q z_pa0).1 = N (ps.getD k z_pa0).1)) a (pl (ps.getD k z_pa0).1)) k 0 a)))
def M_rpa (N : Nat → Nat) (u : g_St) (k : Nat) (X : z_Pa) : Prop := (∀ y, X.2.2.2.2.1 = some y → g_AI u 1748 k = Int32.ofNat ((z_own1 N X (y.2 + 3)).getD 0)) ∧ ∀ y, X.2.2.2.2.2 = some y → g_AI u 1812 k = Int32.ofNat ((z_own1 N X y).getD 0)
section
variable {n : Nat} {kd pl nw nv : Nat → Nat} {wd vl : Nat → Int64}
/-- what resolving looks at of a part -/
def M_pv (n : Nat) (kd pl : Nat → Nat) (vl : Nat → Int64) (u : g_St) (k : Nat) (X : z_Pa) : Prop := m_Fix u ∧ z_tkM u n kd pl vl ∧ k < 4 ∧ z_pnm n kd X ∧ X.2.1.length ≤ 3 ∧ g_AI u 1236 k = Int32.ofNat X.1 ∧ g_AI u 1300 k = Int32.ofNat X.2.1.length ∧ (∀ j, j < X.2.1.length → g_AI u 1364 (3 * k + j) = Int32.ofNat (X.2.1.getD j 0)) ∧ M_ps u k X.2.2.2.2.1 ∧ M_pc u k X.2.2.2.2.2
theorem M_pv.W {wI wA : List Nat} {u v : g_St} {k : Nat} {X : z_Pa} (h : M_pv n kd pl vl u k X) (w : z_W wI wA u v) (h1 : ∀ a ∈ wA, a = 1748 ∨ a = 1812) : M_pv n kd pl vl v k X := by
  have A : ∀ a, a ≠ 1748 → a ≠ 1812 → g_AI v a = g_AI u a ∧ g_AL v a = g_AL u a := fun a x y => w.2.2.2.2.2.2.2.2 a (fun q => by rcases h1 a q with z | z; exact x z; exact y z)
  obtain ⟨a1, a2, a3, a4, a5, a6, a7, a8, a9, a10⟩ := h
  refine ⟨w.fx a1, fun i hi => ?_, a3, a4, a5, by rw [(A _ (by decide) (by decide)).1]; exact a6, by rw [(A _ (by decide) (by decide)).1]; exact a7, fun j hj => by rw [(A _ (by decide) (by decide)).1]; exact a8 j hj, ?_, ?_⟩
  · rw [(A 1108 (by decide) (by decide)).1, (A 1172 (by decide) (by decide)).1, (A 725 (by decide) (by decide)).2]; exact a2 i hi
  · cases hx : X.2.2.2.2.1 with
    | none => rw [hx] at a9; show g_AI v 1428 k = 0; rw [(A _ (by decide) (by decide)).1]; exact a9
    | some y => rw [hx] at a9; exact ⟨by rw [(A _ (by decide) (by decide)).1]; exact a9.1, by rw [(A _ (by decide) (by decide)).1]; exact a9.2.1, by rw [(A _ (by decide) (by decide)).1]; exact a9.2.2⟩
  · cases hx : X.2.2.2.2.2 with
    | none => rw [hx] at a10; show g_AI v 1620 k = -1; rw [(A _ (by decide) (by decide)).1]; exact a10
    | some y => rw [hx] at a10; exact ⟨by rw [(A _ (by decide) (by decide)).1]; exact a10.1, by rw [(A _ (by decide) (by decide)).1]; exact a10.2⟩
theorem b_own (NM : z_NM n kd wd vl nw nv) (H : z_H n kd) (hpl : ∀ i, i ≤ n → pl i ≤ 400) {u : g_St} {k : Nat} {X : z_Pa} (V : M_pv n kd pl vl u k X) {t : Nat} (ht : z_isn n kd t) {a : Option (Nat × Nat)} (ha : M_nt u a) : ∃ u', f_M_ownColumn (some 1) (Int32.ofNat k) (Int32.ofNat t) u = some (Int32.ofNat ((z_own1 nw X t).getD 0), u') ∧ M_nt u' (z_nti2 (z_own1 nw X t).isNone a (pl t)) ∧ z_W [833, 897] [] u u' := by
  obtain ⟨hm, tk, k4, nm, l3, v1, v2, v3, v4, v5⟩ := V
  have hn := H.2.1
  have htn := ht.1
  obtain ⟨u1, n1, n2, n3⟩ := b_nt ha (m := 2) (p := pl t) (by decide) (by decide) (hpl t (by omega))
  have key : ∀ d i f, i + d = X.2.1.length → d < f → f_M_ownColumn_2 f (some 1) (Int32.ofNat k) (Int32.ofNat t) (Int32.ofNat i) u = (match z_ff (fun i => decide (nw (X.2.1.getD i 0) = nw t)) d i with | some j => some (Int32.ofNat j, u) | none => some (0, u1)) := by
    intro d
    induction d with
    | zero =>
      intro i f h1 h2
      obtain ⟨f, rfl⟩ : ∃ m, f = m + 1 := ⟨f - 1, by omega⟩
      rw [f_M_ownColumn_2, x_gR, (m_at hm m_k1281).1, x_aI (by omega) (by rw [(m_at hm m_k1281).2]; exact k4), v2, if_pos (by rw [x_le (by omega) (by omega)]; omega), x_gR, (m_at hm m_k705).1, x_aI (by omega) (by rw [(m_at hm m_k705).2]; omega), (tk t (by omega)).2.1, x_nn, show (2 : Int32) = Int32.ofNat 2 from rfl, n1, x_c]
      rfl
    | succ d ih =>
      intro i f h1 h2
      obtain ⟨f, rfl⟩ : ∃ m, f = m + 1 := ⟨f - 1, by omega⟩
      have hi : i < X.2.1.length := by omega
      have hy := nm.2.1 i hi
      have := hy.1
      rw [f_M_ownColumn_2, x_gR, (m_at hm m_k1281).1, x_aI (by omega) (by rw [(m_at hm m_k1281).2]; exact k4), v2, if_neg (by rw [x_le (by omega) (by omega)]; omega), x_gR, (m_at hm m_k769).1, x_gR, (m_at hm m_k1345).1, show (3 : Int32) * Int32.ofNat k + Int32.ofNat i = Int32.ofNat (3 * k + i) from (by rw [Int32.ofNat_add, Int32.ofNat_mul]; rfl), x_aI (by omega) (by rw [(m_at hm m_k1345).2]; omega), v3 i hi, z_tkv hm tk H hy.1, x_gR, (m_at hm m_k769).1, z_tkv hm tk H ht.1, z_ff]
      have e := NM.eq hy ht
      by_cases w : nw (X.2.1.getD i 0) = nw t
      · rw [if_pos (by rw [e]; exact w), if_pos (decide_eq_true w)]
      · rw [if_neg (by rw [e]; exact w), if_neg (by rw [decide_eq_true_eq]; exact w), x_p1]
        exact ih (i + 1) f (by omega) (by omega)
  have k0 := key X.2.1.length 0 200000 (by omega) (by omega)
  unfold f_M_ownColumn
  unfold z_own1
  cases hz : z_ff (fun i => decide (nw (X.2.1.getD i 0) = nw t)) X.2.1.length 0 with
  | some j =>
    rw [hz] at k0
    exact ⟨u, k0, ha, z_W.re⟩
  | none =>
    rw [hz] at k0
    exact ⟨u1, k0, n2, n3⟩
theorem b_frs (NM : z_NM n kd wd vl nw nv) (H : z_H n kd) (hpl : ∀ i, i ≤ n → pl i ≤ 400) {u : g_St} {k : Nat} {X : z_Pa} (V : M_pv n kd pl vl u k X) {t bf : Nat} (ht : z_isn n kd t) (hbf : bf ≤ X.2.1.length) (tr : Bool) {a : Option (Nat × Nat)} (ha : M_nt u a) : ∃ u', f_M_fresh (some 1) (Int32.ofNat k) (Int32.ofNat t) (Int32.ofNat bf) (z_g tr) u = some ((), u') ∧ M_nt u' (z_nti2 (z_frs nw X t bf tr) a (pl t)) ∧ z_W [833, 897] [] u u' := by
  obtain ⟨hm, tk, k4, nm, l3, v1, v2, v3, v4, v5⟩ := V
  have hn := H.2.1
  have htn := ht.1
  obtain ⟨u1, n1, n2, n3⟩ := b_nt ha (m := 2) (p := pl t) (by decide) (by decide) (hpl t (by omega))
  have key : ∀ d i f (b : Bool), i + d = bf → d < f → f_M_fresh_45 f (some 1) (Int32.ofNat k) (Int32.ofNat t) (Int32.ofNat bf) (z_g b) (Int32.ofNat i) u = (if (b || (z_ff (fun i => decide (nw (X.2.1.getD i 0) = nw t)) d i).isSome) = true then some ((), u1) else some ((), u)) := by
    intro d
    induction d with
    | zero =>
      intro i f b h1 h2
      obtain ⟨f, rfl⟩ : ∃ m, f = m + 1 := ⟨f - 1, by omega⟩
      rw [f_M_fresh_45, if_pos (by rw [x_le (by omega) (by omega)]; omega)]
      cases b with
      | false => rw [if_pos (show z_g false = 0 from rfl)]; rfl
      | true => rw [if_neg (show ¬ z_g true = 0 by decide), x_gR, (m_at hm m_k705).1, x_aI (by omega) (by rw [(m_at hm m_k705).2]; omega), (tk t (by omega)).2.1, x_nn, show (2 : Int32) = Int32.ofNat 2 from rfl, n1, x_c]; rfl
    | succ d ih =>
      intro i f b h1 h2
      obtain ⟨f, rfl⟩ : ∃ m, f = m + 1 := ⟨f - 1, by omega⟩
      have hi : i < X.2.1.length := by omega
      have hy := nm.2.1 i hi
      have := hy.1
      rw [f_M_fresh_45, if_neg (by rw [x_le (by omega) (by omega)]; omega)]
      cases b with
      | true =>
        rw [if_neg (show ¬ z_g true = 0 by decide), x_p1]
        have := ih (i + 1) f true (by omega) (by omega)
        rw [Bool.true_or] at this ⊢
        exact this
      | false =>
        rw [if_pos (show z_g false = 0 from rfl), x_gR, (m_at hm m_k769).1, x_gR, (m_at hm m_k1345).1, show (3 : Int32) * Int32.ofNat k + Int32.ofNat i = Int32.ofNat (3 * k + i) from (by rw [Int32.ofNat_add, Int32.ofNat_mul]; rfl), x_aI (by omega) (by rw [(m_at hm m_k1345).2]; omega), v3 i hi, z_tkv hm tk H hy.1, x_gR, (m_at hm m_k769).1, z_tkv hm tk H ht.1, x_p1]
        have e := NM.eq hy ht
        by_cases w : nw (X.2.1.getD i 0) = nw t
        · rw [if_pos (by rw [e]; exact w), show z_ff (fun i => decide (nw (X.2.1.getD i 0) = nw t)) (d + 1) i = some i from if_pos (decide_eq_true w)]
          have := ih (i + 1) f true (by omega) (by omega)
          rw [Bool.true_or] at this
          exact this
        · rw [if_neg (by rw [e]; exact w), show z_ff (fun i => decide (nw (X.2.1.getD i 0) = nw t)) (d + 1) i = z_ff (fun i => decide (nw (X.2.1.getD i 0) = nw t)) d (i + 1) from if_neg (by rw [decide_eq_true_eq]; exact w)]
          exact ih (i + 1) f false (by omega) (by omega)
  have fin : ∀ b : Bool, b = (tr && z_trl nw X t) → f_M_fresh (some 1) (Int32.ofNat k) (Int32.ofNat t) (Int32.ofNat bf) (z_g tr) u = f_M_fresh_45 200000 (some 1) (Int32.ofNat k) (Int32.ofNat t) (Int32.ofNat bf) (z_g b) 0 u → ∃ u', f_M_fresh (some 1) (Int32.ofNat k) (Int32.ofNat t) (Int32.ofNat bf) (z_g tr) u = some ((), u') ∧ M_nt u' (z_nti2 (z_frs nw X t bf tr) a (pl t)) ∧ z_W [833, 897] [] u u' := by
    intro b hb h
    have k0 := key bf 0 200000 b (by omega) (by omega)
    have e0 : z_frs nw X t bf tr = (b || (z_ff (fun i => decide (nw (X.2.1.getD i 0) = nw t)) bf 0).isSome) := by unfold z_frs; rw [hb]
    rw [e0]
    cases hc : (b || (z_ff (fun i => decide (nw (X.2.1.getD i 0) = nw t)) bf 0).isSome) with
    | true =>
      rw [hc, if_pos rfl] at k0
      exact ⟨u1, h.trans k0, n2, n3⟩
    | false =>
      rw [hc, if_neg (by decide)] at k0
      exact ⟨u, h.trans k0, ha, z_W.re⟩
  cases tr with
  | false =>
    refine fin false rfl ?_
    unfold f_M_fresh
    rw [if_pos (show z_g false = 0 from rfl)]
    rfl
  | true =>
    cases hs : X.2.2.2.2.1 with
    | none =>
      rw [hs] at v4
      have e0 : g_AI u 1428 k = 0 := v4
      refine fin false (by unfold z_trl; rw [hs]; rfl) ?_
      unfold f_M_fresh
      rw [if_neg (show ¬ z_g true = 0 by decide), x_gR, (m_at hm m_k1409).1, x_aI (by omega) (by rw [(m_at hm m_k1409).2]; exact k4), e0, if_pos (by decide)]
      rfl
    | some y =>
      rw [hs] at v4
      obtain ⟨e1, e2, e3⟩ := v4
      have hy := (nm.2.2.1 y hs).2
      have := hy.1
      refine fin (decide (nw (y.2 + 5) = nw t)) (by unfold z_trl; rw [hs]; rfl) ?_
      unfold f_M_fresh
      rw [if_neg (show ¬ z_g true = 0 by decide), x_gR, (m_at hm m_k1409).1, x_aI (by omega) (by rw [(m_at hm m_k1409).2]; exact k4), e1, if_neg (by cases y.1 <;> decide), x_gR, (m_at hm m_k769).1, x_gR, (m_at hm m_k1537).1, x_aI (by omega) (by rw [(m_at hm m_k1537).2]; exact k4), e3, z_tkv hm tk H hy.1, x_gR, (m_at hm m_k769).1, z_tkv hm tk H ht.1]
      have e := NM.eq hy ht
      by_cases w : nw (y.2 + 5) = nw t
      · rw [if_pos (by rw [e]; exact w), decide_eq_true w]; rfl
      · rw [if_neg (by rw [e]; exact w), decide_eq_false w]; rfl
end
