/-! THE CHECK: notes; a source is resolved (reference) -/
def z_nt (a : Option (Nat × Nat)) (m p : Nat) : Option (Nat × Nat) := match a with
  | none => some (m, p)
  | some y => if y.1 < m ∨ (y.1 = m ∧ y.2 ≤ p) then some y else some (m, p)
def M_nt (u : g_St) (a : Option (Nat × Nat)) : Prop := match a with
  | none => g_I u 833 1 = 0
  | some y => g_I u 833 1 = Int32.ofNat y.1 ∧ g_I u 897 1 = Int32.ofNat y.2 ∧ 1 ≤ y.1 ∧ y.1 ≤ 8 ∧ y.2 ≤ 400
theorem M_nt.W {wI wA : List Nat} {u v : g_St} {a : Option (Nat × Nat)} (h : M_nt u a) (w : z_W wI wA u v) (h1 : 833 ∉ wI) (h2 : 897 ∉ wI) : M_nt v a := by
  have e1 := w.2.2.2.2.2.2.2.1 833 1 (fun q => h1 q.2)
  have e2 := w.2.2.2.2.2.2.2.1 897 1 (fun q => h2 q.2)
  cases a with
  | none => show g_I v 833 1 = 0; rw [e1]; exact h
  | some y => show g_I v 833 1 = _ ∧ g_I v 897 1 = _ ∧ _; rw [e1, e2]; exact h
theorem b_nt {u : g_St} {a : Option (Nat × Nat)} (h : M_nt u a) {m p : Nat} (h1 : 1 ≤ m) (h2 : m ≤ 8) (h3 : p ≤ 400) : ∃ u', f_M_note (some 1) (Int32.ofNat m) (Int32.ofNat p) u = some ((), u') ∧ M_nt u' (z_nt a m p) ∧ z_W [833, 897] [] u u' := by
  have set : M_nt (g_setI (g_setI u 833 1 (Int32.ofNat m)) 897 1 (Int32.ofNat p)) (some (m, p)) := ⟨by rw [x_I_I, if_neg (fun q => by have := q.1; omega), x_I_I, if_pos ⟨rfl, rfl⟩], by rw [x_I_I, if_pos ⟨rfl, rfl⟩], h1, h2, h3⟩
  have sw : z_W [833, 897] [] u (g_setI (g_setI u 833 1 (Int32.ofNat m)) 897 1 (Int32.ofNat p)) := (z_W.re.pI (by decide) _).pI (by decide) _
  unfold f_M_note
  cases a with
  | none =>
    have e : g_I u 833 1 = 0 := h
    rw [x_gI, e, if_pos (by decide), x_pI, x_pI]
    exact ⟨_, rfl, set, sw⟩
  | some y =>
    obtain ⟨e1, e2, e3, e4, e5⟩ := h
    rw [x_gI, e1, if_neg (show ¬ Int32.ofNat y.1 ≤ 0 from by rw [show (0 : Int32) = Int32.ofNat 0 from rfl, x_le (by omega) (by omega)]; omega), x_gI, e1]
    by_cases w1 : y.1 < m
    · rw [if_pos (by rw [x_lt (by omega) (by omega)]; exact w1)]
      have : z_nt (some y) m p = some y := if_pos (Or.inl w1)
      rw [this]
      exact ⟨u, rfl, ⟨e1, e2, e3, e4, e5⟩, z_W.re⟩
    · rw [if_neg (by rw [x_lt (by omega) (by omega)]; exact w1), x_gI, e1]
      by_cases w2 : y.1 = m
      · rw [if_pos (by rw [w2]), x_gI, e2]
        by_cases w3 : p < y.2
        · rw [if_pos (by rw [x_lt (by omega) (by omega)]; exact w3), x_pI, x_pI]
          have : z_nt (some y) m p = some (m, p) := if_neg (by omega)
          rw [this]
          exact ⟨_, rfl, set, sw⟩
        · rw [if_neg (by rw [x_lt (by omega) (by omega)]; exact w3)]
          have : z_nt (some y) m p = some y := if_pos (by omega)
          rw [this]
          exact ⟨u, rfl, ⟨e1, e2, e3, e4, e5⟩, z_W.re⟩
      · rw [if_neg (by rw [x_eq (by omega) (by omega)]; exact w2), x_pI, x_pI]
        have : z_nt (some y) m p = some (m, p) := if_neg (by omega)
        rw [this]
        exact ⟨_, rfl, set, sw⟩
/-- a source that can't stand -/
def z_sbad (rec : Bool) (ow : Nat) (m : z_Mn) : Bool := match m with
  | none => true
  | some (.inl j) => !rec && decide (ow ≤ j)
  | some (.inr _) => false
def z_nti2 (b : Bool) (a : Option (Nat × Nat)) (p : Nat) : Option (Nat × Nat) := if b = true then z_nt a 2 p else a
section
variable {n : Nat} {kd pl nw nv : Nat → Nat} {wd vl : Nat → Int64}
theorem M_qu.W {wI wA : List Nat} {u v : g_St} {C : Nat → Nat} {x : z_Qu} (h : M_qu pl u C x) (w : z_W wI wA u v) (h1 : ∀ f ∈ z_cf ++ [2113, 4353, 4417], f ∉ wI) (h2 : ∀ a ∈ z_gp.map (·.1) ++ [3732], a ∉ wA) : M_qu pl v C x := by
  obtain ⟨q1, q2, q3, q4, q5, q6, q7, q8, q9, q10, q11⟩ := h
  have I : ∀ f, f ∈ z_cf ++ [2113, 4353, 4417] → g_I v f 1 = g_I u f 1 := fun f hf => w.2.2.2.2.2.2.2.1 f 1 (fun q => h1 f hf q.2)
  have A : ∀ a, a ∈ z_gp.map (·.1) ++ [3732] → g_AI v a = g_AI u a := fun a ha => (w.2.2.2.2.2.2.2.2 a (h2 a ha)).1
  have L : ∀ C, M_low u v C := fun C q hq j _ => by rw [A q.1 (List.mem_append_left _ (List.mem_map_of_mem hq))]
  have c : M_c v C := fun f hf => by rw [I f (List.mem_append_left _ hf)]; exact q1 f hf
  refine ⟨c, by rw [I _ (by decide)]; exact q2, q3, q4, q5.low (L C) z_le.re, by rw [A _ (by decide)]; exact q6, q7.low (L C) z_le.re, q8, q9, ?_, q11⟩
  cases hx : x.2.2.2 with
  | none => rw [hx] at q10; show g_I v 4353 1 = 0; rw [I _ (by decide)]; exact q10
  | some y =>
    rw [hx] at q10
    obtain ⟨e1, e2, e3, e4⟩ := q10
    exact ⟨by rw [I _ (by decide)]; exact e1, by rw [I _ (by decide)]; exact e2, e3, fun j hj => by rw [A _ (by decide)]; exact e4 j hj⟩
theorem M_ck.W {wI wA : List Nat} {u v : g_St} {C : Nat → Nat} {x : z_Qu} {tc : Nat} {cols : Nat → Nat} (h : M_ck n kd pl vl u C x tc cols) (w : z_W wI wA u v) (h1 : ∀ f ∈ z_cf ++ [2113, 4353, 4417], f ∉ wI) (h2 : ∀ a ∈ z_gp.map (·.1) ++ [3732], a ∉ wA) (h3 : 65 ∉ wI) (h4 : ∀ a ∈ [1108, 1172, 725, 916], a ∉ wA) : M_ck n kd pl vl v C x tc cols := by
  obtain ⟨a1, a2, a3, a4, a5, a6⟩ := h
  have A : ∀ a ∈ [1108, 1172, 725, 916], g_AI v a = g_AI u a ∧ g_AL v a = g_AL u a := fun a ha => w.2.2.2.2.2.2.2.2 a (h4 a ha)
  refine ⟨w.fx a1, fun i hi => ?_, a3.W w h1 h2, by rw [w.2.2.2.2.2.2.2.1 65 1 (fun q => h3 q.2)]; exact a4, a5, fun t ht => by rw [(A 916 (by decide)).1]; exact a6 t ht⟩
  rw [(A 1108 (by decide)).1, (A 1172 (by decide)).1, (A 725 (by decide)).2]
  exact a2 i hi
theorem b_rso (NM : z_NM n kd wd vl nw nv) (H : z_H n kd) (hpl : ∀ i, i ≤ n → pl i ≤ 400) {u : g_St} {C : Nat → Nat} {x : z_Qu} {tc : Nat} {cols : Nat → Nat} (K : M_ck n kd pl vl u C x tc cols) (hp : ∀ k, k < x.2.1.length → z_isn n kd (x.2.1.getD k z_pa0).1) {s k t ow : Nat} (hs : s < 17) (hk : k < 100) (hso : M_so u k t) (ht : z_isn n kd t) (how : g_AI u 2004 s = Int32.ofNat ow) (how4 : ow ≤ 4) {a : Option (Nat × Nat)} (ha : M_nt u a) :
    ∃ u', f_M_resolveSource (some 1) (Int32.ofNat s) (Int32.ofNat k) u = some ((), u') ∧ z_W [833, 897] [3220] u u' ∧ (∀ j, j ≠ k → g_AI u' 3220 j = g_AI u 3220 j) ∧ g_AI u' 3220 k = z_mc (z_mng nw x.2.1 tc t) ∧ M_nt u' (z_nti2 (z_sbad x.1 ow (z_mng nw x.2.1 tc t)) a (pl t)) := by
  have hm := K.1
  have tk := K.2.1
  have Q := K.2.2.1
  have q4 := Q.2.2.2.1
  have h5 := K.2.2.2.2.1
  have hn := H.2.1
  have htn := ht.1
  have bm := b_mng NM H K hp ht
  generalize hM : z_mng nw x.2.1 tc t = m at bm
  have hm1 : ∀ j, m = some (.inl j) → j < x.2.1.length := fun j e => by
    rw [← hM] at e
    unfold z_mng at e
    cases hz : z_ff (fun k => decide (nw (x.2.1.getD k z_pa0).1 = nw t)) x.2.1.length 0 with
    | some y => rw [hz] at e; cases e; have := (z_ff_some hz).2.1; omega
    | none =>
      rw [hz] at e
      simp only [] at e
      cases hz2 : z_ff (fun k => decide (nw t = 29744 + k)) tc 0 with
      | some y => rw [hz2] at e; cases e
      | none => rw [hz2] at e; cases e
  have hm2 : ∀ j, m = some (.inr j) → j < tc := fun j e => by
    rw [← hM] at e
    unfold z_mng at e
    cases hz : z_ff (fun k => decide (nw (x.2.1.getD k z_pa0).1 = nw t)) x.2.1.length 0 with
    | some y => rw [hz] at e; cases e
    | none =>
      rw [hz] at e
      simp only [] at e
      cases hz2 : z_ff (fun k => decide (nw t = 29744 + k)) tc 0 with
      | some y => rw [hz2] at e; cases e; have := (z_ff_some hz2).2.1; omega
      | none => rw [hz2] at e; cases e
  obtain ⟨s6, e6⟩ : ∃ s6, s6 = g_setAI u 3220 k (z_mc m) := ⟨_, rfl⟩
  have W6 : z_W [833, 897] [3220] u s6 := by rw [e6]; exact z_W.re.sI (by decide) _ _
  have hm6 := W6.fx hm
  have ar6 : g_AI s6 3220 k = z_mc m := by rw [e6, x_AI_AI, if_pos ⟨rfl, rfl⟩]
  have aro : ∀ j, j ≠ k → g_AI s6 3220 j = g_AI u 3220 j := fun j hj => by rw [e6, x_AI_AI, if_neg (fun q => hj q.2)]
  have a6 : M_nt s6 a := by rw [e6]; exact ha
  have k6 : g_AI s6 3092 k = Int32.ofNat t := by rw [e6, x_AI_AI, if_neg (fun q => by have := q.1; omega)]; exact hso.1
  have p6 : g_AI s6 1172 t = Int32.ofNat (pl t) := by rw [e6, x_AI_AI, if_neg (fun q => by have := q.1; omega)]; exact (tk t (by omega)).2.1
  -- a note
  obtain ⟨u1, n1, n2, n3⟩ := b_nt a6 (m := 2) (p := pl t) (by decide) (by decide) (hpl t (by omega))
  have r70 : f_M_resolveSource_70 (some 1) (Int32.ofNat k) s6 = some ((), u1) := by
    unfold f_M_resolveSource_70
    rw [x_gR, (m_at hm6 m_k705).1, x_gR, (m_at hm6 m_k3649).1, x_aI (by omega) (by rw [(m_at hm6 m_k3649).2]; exact hk), k6, x_aI (by omega) (by rw [(m_at hm6 m_k705).2]; omega), p6, x_nn, show (2 : Int32) = Int32.ofNat 2 from rfl, n1, x_c]
  have ar1 : g_AI u1 3220 = g_AI s6 3220 := (n3.2.2.2.2.2.2.2.2 3220 (by decide)).1
  have done : ∀ b : Bool, (b = true → f_M_resolveSource (some 1) (Int32.ofNat s) (Int32.ofNat k) u = some ((), u1)) → (b = false → f_M_resolveSource (some 1) (Int32.ofNat s) (Int32.ofNat k) u = some ((), s6)) → z_sbad x.1 ow m = b → ∃ u', f_M_resolveSource (some 1) (Int32.ofNat s) (Int32.ofNat k) u = some ((), u') ∧ z_W [833, 897] [3220] u u' ∧ (∀ j, j ≠ k → g_AI u' 3220 j = g_AI u 3220 j) ∧ g_AI u' 3220 k = z_mc m ∧ M_nt u' (z_nti2 (z_sbad x.1 ow m) a (pl t)) := by
    intro b h1 h2 h3
    rw [h3]
    cases b with
    | true => exact ⟨u1, h1 rfl, W6.trans (n3.mono (fun _ h => h) (fun _ h => by cases h)), fun j hj => by rw [ar1]; exact aro j hj, by rw [ar1]; exact ar6, n2⟩
    | false => exact ⟨s6, h2 rfl, W6, aro, ar6, a6⟩
  have st : f_M_resolveSource (some 1) (Int32.ofNat s) (Int32.ofNat k) u = if (4 : Int32) ≤ Int32.ofNat ow then f_M_resolveSource_53 (some 1) (Int32.ofNat k) 0 s6 else if z_g x.1 = 0 then (if z_mc m < 10 + Int32.ofNat ow then f_M_resolveSource_53 (some 1) (Int32.ofNat k) 0 s6 else f_M_resolveSource_53 (some 1) (Int32.ofNat k) 1 s6) else f_M_resolveSource_53 (some 1) (Int32.ofNat k) 0 s6 := by
    unfold f_M_resolveSource
    rw [x_gR, (m_at hm m_k3777).1, x_gR, (m_at hm m_k3649).1, x_aI (by omega) (by rw [(m_at hm m_k3649).2]; exact hk), hso.1, x_nn, bm, x_c, x_sI (by omega) (by rw [(m_at hm m_k3777).2]; exact hk), ← e6, x_gR, (m_at hm6 m_k2241).1, x_aI (by omega) (by rw [(m_at hm6 m_k2241).2]; exact hs), show g_AI s6 2004 s = Int32.ofNat ow from (by rw [e6, x_AI_AI, if_neg (fun q => by have := q.1; omega)]; exact how), x_gI, show g_I s6 2113 1 = z_g x.1 from (by rw [e6]; exact Q.2.1), x_gR, (m_at hm6 m_k3777).1, x_aI (by omega) (by rw [(m_at hm6 m_k3777).2]; exact hk), ar6]
  have r53 : ∀ y : Int32, f_M_resolveSource_53 (some 1) (Int32.ofNat k) y s6 = if z_mc m = -1 then some ((), u1) else if y = 0 then some ((), s6) else some ((), u1) := fun y => by
    unfold f_M_resolveSource_53
    rw [x_gR, (m_at hm6 m_k3777).1, x_aI (by omega) (by rw [(m_at hm6 m_k3777).2]; exact hk), ar6, r70]
  rw [r53, r53] at st
  cases m with
  | none =>
    refine done true (fun _ => ?_) (fun e => by cases e) rfl
    rw [st, if_pos (show z_mc none = -1 from rfl), if_pos (show z_mc none = -1 from rfl)]
    split
    · rfl
    · split
      · split
        · rfl
        · rfl
      · rfl
  | some mm =>
    cases mm with
    | inr j =>
      have hj := hm2 j rfl
      refine done false (fun e => by cases e) (fun _ => ?_) rfl
      rw [st, if_neg (show ¬ z_mc (some (.inr j)) = -1 from z_oc_n (by omega)), if_pos rfl]
      split
      · rfl
      · split
        · rw [if_pos (show z_mc (some (.inr j)) < 10 + Int32.ofNat ow from by
            show Int32.ofNat j < _
            rw [show (10 : Int32) = Int32.ofNat 10 from rfl, x_add, x_lt (by omega) (by omega)]; omega)]
        · rfl
    | inl j =>
      have hj := hm1 j rfl
      have ne1 : ¬ z_mc (some (.inl j)) = -1 := z_oc_n (by omega)
      have c1 : ((4 : Int32) ≤ Int32.ofNat ow) = (4 ≤ ow) := x_le (a := 4) (by decide) (by omega)
      have c2 : (z_mc (some (.inl j)) < 10 + Int32.ofNat ow) = (j < ow) := by
        show (Int32.ofNat (10 + j) < _) = _
        rw [show (10 : Int32) = Int32.ofNat 10 from rfl, x_add, x_lt (by omega) (by omega)]
        exact propext ⟨fun h => by omega, fun h => by omega⟩
      refine done (!x.1 && decide (ow ≤ j)) (fun e => ?_) (fun e => ?_) rfl
      · rw [Bool.and_eq_true, decide_eq_true_eq] at e
        have ex : x.1 = false := by cases hx : x.1 with
          | true => rw [hx] at e; cases e.1
          | false => rfl
        rw [st, if_neg (by rw [c1]; omega), ex, if_pos (show z_g false = 0 from rfl), if_neg (by rw [c2]; omega), if_neg ne1, if_neg (by decide)]
      · rw [st, if_neg ne1, if_pos rfl]
        split
        · rfl
        · split
          · rename_i hz
            have ex : x.1 = false := by cases hx : x.1 with
              | true => rw [hx] at hz; exact absurd hz (by decide)
              | false => rfl
            rw [ex] at e
            have : ¬ ow ≤ j := fun y => by rw [decide_eq_true y] at e; cases e
            rw [if_pos (by rw [c2]; omega)]
          · rfl
end
