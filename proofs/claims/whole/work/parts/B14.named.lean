/-! THE CHECK: which parts a selection names (reference) -/
/-- a loop over a list -/
theorem z_fr {α β σ τ : Type} (l : List α) (d0 : α) (K : Nat → Nat → σ → Option β) (E : σ → Option β) (I : σ → τ → Prop) (nt : τ → α → τ)
    (hE : ∀ f u a, I u a → K (f + 1) l.length u = E u)
    (turn : ∀ f i u a, i < l.length → I u a → ∃ v, K (f + 1) i u = K f (i + 1) v ∧ I v (nt a (l.getD i d0))) :
    ∀ (t : List α) (i : Nat) (u : σ) (a : τ) (f : Nat), l.drop i = t → i ≤ l.length → t.length < f → I u a → ∃ u', K f i u = E u' ∧ I u' (t.foldl nt a) := by
  intro t
  induction t with
  | nil =>
    intro i u a f h1 h2 h3 h4
    have hi : l.length ≤ i := List.drop_eq_nil_iff.mp h1
    obtain ⟨f, rfl⟩ : ∃ m, f = m + 1 := ⟨f - 1, by omega⟩
    have e : i = l.length := by omega
    rw [e]
    exact ⟨u, hE f u a h4, h4⟩
  | cons y t ih =>
    intro i u a f h1 h2 h3 h4
    have hi : i < l.length := by
      by_cases w : i < l.length
      · exact w
      · rw [List.drop_eq_nil_of_le (by omega)] at h1; cases h1
    have hdr : l.drop (i + 1) = t := by
      have := List.drop_drop (i := 1) (j := i) (l := l)
      rw [h1] at this
      rw [show i + 1 = i + 1 from rfl, ← this]; rfl
    have hyi : l.getD i d0 = y := by
      have := List.drop_eq_getElem_cons hi
      rw [h1] at this
      rw [List.getD_eq_getElem?_getD, List.getElem?_eq_getElem hi]
      exact (List.cons.inj this).1.symm
    obtain ⟨f, rfl⟩ : ∃ m, f = m + 1 := ⟨f - 1, by omega⟩
    obtain ⟨v, v1, v2⟩ := turn f i u a hi h4
    rw [hyi] at v2
    obtain ⟨u', r1, r2⟩ := ih (i + 1) v _ f hdr (by omega) (by rw [List.length_cons] at h3; omega) v2
    exact ⟨u', v1.trans r1, r2⟩
def z_pn (m : z_Mn) : Nat := match m with
  | some (.inl k) => 2 ^ k
  | _ => 0
def z_ci (c : z_Co) : Option Nat := match c with
  | .inl _ => none
  | .inr z => some z.1
/-- the sources of a selection: its own, then those within NOT EXISTS -/
def z_srt (y : z_Se) : List Nat := y.2.2.1 ++ y.2.2.2.filterMap z_ci
def z_nmd (nw : Nat → Nat) (ps : List z_Pa) (tc : Nat) (y : z_Se) : Nat := (z_srt y).foldl (fun a t => a ||| z_pn (z_mng nw ps tc t)) 0
def z_isp (nw : Nat → Nat) (ps : List z_Pa) (tc p t : Nat) : Bool := decide (z_mng nw ps tc t = some (.inl p))
def z_tnm (nw : Nat → Nat) (ps : List z_Pa) (tc p : Nat) (y : z_Se) : Nat := (z_srt y).foldl (fun a t => if z_isp nw ps tc p t = true then a + 1 else a) 0
theorem z_or16 : ∀ a : Fin 16, ∀ b : Fin 16, Int32.ofNat a.1 ||| Int32.ofNat b.1 = Int32.ofNat (a.1 ||| b.1) := by decide +kernel
theorem z_or16' {a b : Nat} (ha : a < 16) (hb : b < 16) : Int32.ofNat a ||| Int32.ofNat b = Int32.ofNat (a ||| b) ∧ a ||| b < 16 := ⟨z_or16 ⟨a, ha⟩ ⟨b, hb⟩, Nat.or_lt_two_pow (n := 4) ha hb⟩
theorem z_pn_lt {m : z_Mn} (h : ∀ k, m = some (.inl k) → k < 4) : z_pn m < 16 := by
  cases m with
  | none => exact (by decide : (0 : Nat) < 16)
  | some v =>
    cases v with
    | inl k =>
      have := h k rfl
      exact Nat.pow_lt_pow_right (a := 2) (by decide) this
    | inr k => exact (by decide : (0 : Nat) < 16)
theorem z_fmap (F : Nat → Nat → Nat) (l : List z_Co) : ∀ a, (l.filterMap z_ci).foldl F a = l.foldl (fun a c => match z_ci c with | none => a | some t => F a t) a := by
  induction l with
  | nil => intro a; rfl
  | cons c l ih =>
    intro a
    rw [List.filterMap_cons, List.foldl_cons]
    cases z_ci c with
    | none => exact ih a
    | some t => exact ih (F a t)
section
variable {n : Nat} {kd pl nw nv : Nat → Nat} {wd vl : Nat → Int64}
/-- a condition of a resolved selection -/
def M_con (nw : Nat → Nat) (u : g_St) (ps : List z_Pa) (tc i : Nat) (x : z_Co) : Prop := ∃ c, c < 120 ∧ g_AI u 2452 i = Int32.ofNat c ∧ match x with
  | .inl _ => ¬ g_AI u 3284 c = 2
  | .inr z => g_AI u 3284 c = 2 ∧ ∃ k, k < 100 ∧ g_AI u 3540 c = Int32.ofNat k ∧ M_so u k z.1 ∧ g_AI u 3220 k = z_mc (z_mng nw ps tc z.1)
theorem M_rse.con {u : g_St} {C : Nat → Nat} {ps : List z_Pa} {tc : Nat} {cols : Nat → Nat} {s ow : Nat} {y : z_Se} (lim : z_lim C) (h : M_rse n kd nw u C ps tc cols s y) (g : M_se pl u C s ow y) : ∀ j, j < y.2.2.2.length → M_con nw u ps tc (6 * s + j) (y.2.2.2.getD j z_co0) := by
  intro j hj
  obtain ⟨c, h1, h2, h3⟩ := h.2.2 j hj
  obtain ⟨c', g1, g2⟩ := g.2.2.2.2.2.2.2.2.2.1 j hj
  have e0 : y.2.2.2.getD j (.inr (0, [])) = y.2.2.2.getD j z_co0 := by
    rw [List.getD_eq_getElem?_getD, List.getD_eq_getElem?_getD, List.getElem?_eq_getElem hj]; rfl
  rw [e0] at g2
  have cl : c' < 120 := by have := lim.2.2.2.2.2; have := g2.1; omega
  have e : c' = c := by
    rw [h2] at g1
    have := (x_eq (a := c) (b := c') (by omega) (by omega)).mp g1
    omega
  rw [e] at g2
  refine ⟨c, h1, h2, ?_⟩
  revert h3 g2
  cases y.2.2.2.getD j z_co0 with
  | inl b =>
    intro h3 g2
    rcases g2.2.2 with z | z
    · show ¬ g_AI u 3284 c = 2
      rw [z.2]; decide
    · show ¬ g_AI u 3284 c = 2
      rw [z.2.1]; decide
  | inr z =>
    intro h3 g2
    obtain ⟨⟨k, k1, k2⟩, -⟩ := h3
    obtain ⟨t1, t2, t3, t4, t5⟩ := k2 _ rfl
    exact ⟨g2.2.1, k, t1, k1, t2, t5⟩
theorem z_mng4 {x : z_Qu} {tc t : Nat} (q4 : x.2.1.length ≤ 4) : ∀ k, z_mng nw x.2.1 tc t = some (.inl k) → k < 4 := fun k e => by have := z_mng_lt.1 k e; omega
theorem b_pnd {u : g_St} (hm : m_Fix u) {k : Nat} {m : z_Mn} (hk : k < 100) (h : g_AI u 3220 k = z_mc m) (h4 : ∀ j, m = some (.inl j) → j < 4) (h5 : ∀ j, m = some (.inr j) → j < 5) : f_M_partNamed (some 1) (Int32.ofNat k) u = some (Int32.ofNat (z_pn m), u) := by
  unfold f_M_partNamed
  rw [x_gR, (m_at hm m_k3777).1, x_aI (by omega) (by rw [(m_at hm m_k3777).2]; exact hk), h]
  cases m with
  | none => rw [if_pos (show z_mc none < 10 by decide)]; rfl
  | some v =>
    cases v with
    | inl j =>
      have := h4 j rfl
      have d : ∀ j : Fin 4, ¬ z_mc (some (.inl j.1)) < 10 ∧ (1 : Int32) <<< ((z_mc (some (.inl j.1)) - 10) &&& 31) = Int32.ofNat (2 ^ j.1) := by decide
      rw [if_neg (d ⟨j, this⟩).1, x_gR, (m_at hm m_k3777).1, x_aI (by omega) (by rw [(m_at hm m_k3777).2]; exact hk), h, (d ⟨j, this⟩).2]
      rfl
    | inr j =>
      have := h5 j rfl
      have d : ∀ j : Fin 5, z_mc (some (.inr j.1)) < 10 := by decide
      rw [if_pos (d ⟨j, this⟩)]; rfl
theorem b_nmd {u : g_St} {C : Nat → Nat} {x : z_Qu} {tc : Nat} {cols : Nat → Nat} (K : M_ck n kd pl vl u C x tc cols) {s ow : Nat} {y : z_Se} (h : M_rse n kd nw u C x.2.1 tc cols s y) (g : M_se pl u C s ow y) : f_M_named (some 1) (Int32.ofNat s) 1 u = some (Int32.ofNat (z_nmd nw x.2.1 tc y), u) ∧ z_nmd nw x.2.1 tc y < 16 := by
  have hm := K.1
  have q4 := K.2.2.1.2.2.2.1
  have t5 := K.2.2.2.2.1
  have lim : z_lim C := K.2.2.1.2.2.2.2.2.2.2.2.2.2
  obtain ⟨k0, s1, s2, s3, s4, s5, s6⟩ := h.1
  have cn := h.con lim g
  have c6 := g.2.2.2.2.2.2.2.2.1
  have c7 := g.2.2.2.2.2.2.2.2.2.2.2.2
  have m4 : ∀ t j, z_mng nw x.2.1 tc t = some (.inl j) → j < 4 := fun t j e => by have := z_mng_lt.1 j e; omega
  have m5 : ∀ t j, z_mng nw x.2.1 tc t = some (.inr j) → j < 5 := fun t j e => by have := z_mng_lt.2 j e; omega
  have l3 := lim.2.2.2.2.1
  have k3 := s4.1
  obtain ⟨v1, r1, r2, r3⟩ := z_fr y.2.2.1 0 (fun f i v => f_M_named_5 f (some 1) (Int32.ofNat s) 1 v (Int32.ofNat i) u) (fun v => f_M_named_41 200000 (some 1) (Int32.ofNat s) 1 v 0 u) (fun v a => v = Int32.ofNat a ∧ a < 16) (fun a t => a ||| z_pn (z_mng nw x.2.1 tc t))
    (fun f v a _ => by
      show f_M_named_5 (f + 1) _ _ _ _ _ u = _
      rw [f_M_named_5, x_gR, (m_at hm m_k2561).1, x_aI (by omega) (by rw [(m_at hm m_k2561).2]; exact s1), s2, if_pos (by rw [x_le (by omega) (by omega)]; exact Nat.le_refl _)])
    (fun f i v a hi hI => by
      have O := z_or16' hI.2 (z_pn_lt (m4 (y.2.2.1.getD i 0)))
      refine ⟨_, ?_, rfl, O.2⟩
      show f_M_named_5 (f + 1) _ _ _ _ _ u = _
      rw [f_M_named_5, x_gR, (m_at hm m_k2561).1, x_aI (by omega) (by rw [(m_at hm m_k2561).2]; exact s1), s2, if_neg (by rw [x_le (by omega) (by omega)]; omega), x_gR, (m_at hm m_k2497).1, x_aI (by omega) (by rw [(m_at hm m_k2497).2]; exact s1), s3, x_add, x_nn, b_pnd hm (by omega) (s6 i hi).2.2 (m4 _) (m5 _), x_c, hI.1, O.1, x_p1])
    y.2.2.1 0 0 0 200000 rfl (Nat.zero_le _) (by omega) ⟨rfl, by decide⟩
  obtain ⟨v2, e1, e2, e3⟩ := z_fr y.2.2.2 z_co0 (fun f i v => f_M_named_41 f (some 1) (Int32.ofNat s) 1 v (Int32.ofNat i) u) (fun v => some (v, u)) (fun v a => v = Int32.ofNat a ∧ a < 16) (fun a c => match z_ci c with | none => a | some t => a ||| z_pn (z_mng nw x.2.1 tc t))
    (fun f v a _ => by
      show f_M_named_41 (f + 1) _ _ _ _ _ u = _
      rw [f_M_named_41, if_neg (by decide), x_gR, (m_at hm m_k2625).1, x_aI (by omega) (by rw [(m_at hm m_k2625).2]; exact s1), c6, if_pos (by rw [x_le (by omega) (by omega)]; exact Nat.le_refl _)])
    (fun f i v a hi hI => by
      obtain ⟨c, h1, h2, h3⟩ := cn i hi
      have st : f_M_named_41 (f + 1) (some 1) (Int32.ofNat s) 1 v (Int32.ofNat i) u = (if g_AI u 3284 c = 2 then g_gR u 4161 (some 1) fun p7 => g_aI u p7 (Int32.ofNat c) fun i8 => g_c (g_nn (some 1) (f_M_partNamed (some 1) i8 u)) fun i9 s10 => f_M_named_41 f (some 1) (Int32.ofNat s) 1 (v ||| i9) (Int32.ofNat i + 1) s10 else f_M_named_41 f (some 1) (Int32.ofNat s) 1 v (Int32.ofNat i + 1) u) := by
        rw [f_M_named_41, if_neg (by decide), x_gR, (m_at hm m_k2625).1, x_aI (by omega) (by rw [(m_at hm m_k2625).2]; exact s1), c6, if_neg (by rw [x_le (by omega) (by omega)]; omega), x_gR, (m_at hm m_k2689).1, show (6 : Int32) * Int32.ofNat s + Int32.ofNat i = Int32.ofNat (6 * s + i) from (by rw [Int32.ofNat_add, Int32.ofNat_mul]; rfl), x_aI (by omega) (by rw [(m_at hm m_k2689).2]; omega), h2, x_gR, (m_at hm m_k3905).1, x_aI (by omega) (by rw [(m_at hm m_k3905).2]; exact h1)]
      revert h3
      cases y.2.2.2.getD i z_co0 with
      | inl b =>
        intro h3
        refine ⟨v, ?_, hI⟩
        show f_M_named_41 (f + 1) _ _ _ _ _ u = _
        rw [st, if_neg h3, x_p1]
      | inr z =>
        intro h3
        obtain ⟨h3, k, h4, h5, h6, h7⟩ := h3
        have O := z_or16' hI.2 (z_pn_lt (m4 z.1))
        refine ⟨_, ?_, rfl, O.2⟩
        show f_M_named_41 (f + 1) _ _ _ _ _ u = _
        rw [st, if_pos h3, x_gR, (m_at hm m_k4161).1, x_aI (by omega) (by rw [(m_at hm m_k4161).2]; exact h1), h5, x_nn, b_pnd hm h4 h7 (m4 _) (m5 _), x_c, hI.1, O.1, x_p1]
        rfl)
    y.2.2.2 0 v1 _ 200000 rfl (Nat.zero_le _) (by omega) ⟨r2, r3⟩
  have ez : z_nmd nw x.2.1 tc y = y.2.2.2.foldl (fun a c => match z_ci c with | none => a | some t => a ||| z_pn (z_mng nw x.2.1 tc t)) (y.2.2.1.foldl (fun a t => a ||| z_pn (z_mng nw x.2.1 tc t)) 0) := by
    unfold z_nmd z_srt
    rw [List.foldl_append, z_fmap (fun a t => a ||| z_pn (z_mng nw x.2.1 tc t))]
  rw [ez]
  refine ⟨?_, e3⟩
  unfold f_M_named
  rw [← e2]
  exact r1.trans e1
theorem z_mcp {m : z_Mn} {p : Nat} (hp : p < 4) (h4 : ∀ j, m = some (.inl j) → j < 4) (h5 : ∀ j, m = some (.inr j) → j < 5) : (z_mc m = 10 + Int32.ofNat p) = (m = some (.inl p)) := by
  cases m with
  | none =>
    have d : ∀ p : Fin 4, ¬ z_mc none = 10 + Int32.ofNat p.1 := by decide
    exact propext ⟨fun e => absurd e (d ⟨p, hp⟩), fun e => by cases e⟩
  | some v =>
    cases v with
    | inl j =>
      have d : ∀ j p : Fin 4, z_mc (some (.inl j.1)) = 10 + Int32.ofNat p.1 → j = p := by decide
      have d2 : ∀ p : Fin 4, z_mc (some (.inl p.1)) = 10 + Int32.ofNat p.1 := by decide
      refine propext ⟨fun e => ?_, fun e => ?_⟩
      · have := congrArg Fin.val (d ⟨j, h4 j rfl⟩ ⟨p, hp⟩ e)
        have : j = p := this
        rw [this]
      · cases e
        exact d2 ⟨p, hp⟩
    | inr j =>
      have d : ∀ j : Fin 5, ∀ p : Fin 4, ¬ z_mc (some (.inr j.1)) = 10 + Int32.ofNat p.1 := by decide
      exact propext ⟨fun e => absurd e (d ⟨j, h5 j rfl⟩ ⟨p, hp⟩), fun e => by cases e⟩
theorem b_tnm {u : g_St} {C : Nat → Nat} {x : z_Qu} {tc : Nat} {cols : Nat → Nat} (K : M_ck n kd pl vl u C x tc cols) {s ow : Nat} {y : z_Se} (h : M_rse n kd nw u C x.2.1 tc cols s y) (g : M_se pl u C s ow y) {p : Nat} (hp : p < 4) : f_M_timesNamed (some 1) (Int32.ofNat s) (Int32.ofNat p) u = some (Int32.ofNat (z_tnm nw x.2.1 tc p y), u) := by
  have hm := K.1
  have q4 := K.2.2.1.2.2.2.1
  have t5 := K.2.2.2.2.1
  have lim : z_lim C := K.2.2.1.2.2.2.2.2.2.2.2.2.2
  obtain ⟨k0, s1, s2, s3, s4, s5, s6⟩ := h.1
  have cn := h.con lim g
  have c6 := g.2.2.2.2.2.2.2.2.1
  have c7 := g.2.2.2.2.2.2.2.2.2.2.2.2
  have m4 : ∀ t j, z_mng nw x.2.1 tc t = some (.inl j) → j < 4 := fun t j e => by have := z_mng_lt.1 j e; omega
  have m5 : ∀ t j, z_mng nw x.2.1 tc t = some (.inr j) → j < 5 := fun t j e => by have := z_mng_lt.2 j e; omega
  have l3 := lim.2.2.2.2.1
  have k3 := s4.1
  obtain ⟨v1, r1, r2⟩ := z_fr y.2.2.1 0 (fun f i v => f_M_timesNamed_5 f (some 1) (Int32.ofNat s) (Int32.ofNat p) v (Int32.ofNat i) u) (fun v => f_M_timesNamed_54 200000 (some 1) (Int32.ofNat s) (Int32.ofNat p) v 0 u) (fun v a => v = Int32.ofNat a) (fun a t => if z_isp nw x.2.1 tc p t = true then a + 1 else a)
    (fun f v a _ => by
      show f_M_timesNamed_5 (f + 1) _ _ _ _ _ u = _
      rw [f_M_timesNamed_5, x_gR, (m_at hm m_k2561).1, x_aI (by omega) (by rw [(m_at hm m_k2561).2]; exact s1), s2, if_pos (by rw [x_le (by omega) (by omega)]; exact Nat.le_refl _)])
    (fun f i v a hi hI => by
      refine ⟨_, ?_, rfl⟩
      show f_M_timesNamed_5 (f + 1) _ _ _ _ _ u = _
      rw [f_M_timesNamed_5, x_gR, (m_at hm m_k2561).1, x_aI (by omega) (by rw [(m_at hm m_k2561).2]; exact s1), s2, if_neg (by rw [x_le (by omega) (by omega)]; omega), x_gR, (m_at hm m_k3777).1, x_gR, (m_at hm m_k2497).1, x_aI (by omega) (by rw [(m_at hm m_k2497).2]; exact s1), s3, x_add, x_aI (by omega) (by rw [(m_at hm m_k3777).2]; omega), (s6 i hi).2.2, hI, x_p1, x_p1, Int32.add_zero]
      have e := z_mcp hp (m4 (y.2.2.1.getD i 0)) (m5 (y.2.2.1.getD i 0))
      unfold z_isp
      by_cases w : z_mng nw x.2.1 tc (y.2.2.1.getD i 0) = some (.inl p)
      · rw [if_pos (by rw [e]; exact w), if_pos (decide_eq_true w)]
      · rw [if_neg (by rw [e]; exact w), if_neg (by rw [decide_eq_true_eq]; exact w)])
    y.2.2.1 0 0 0 200000 rfl (Nat.zero_le _) (by omega) rfl
  obtain ⟨v2, e1, e2⟩ := z_fr y.2.2.2 z_co0 (fun f i v => f_M_timesNamed_54 f (some 1) (Int32.ofNat s) (Int32.ofNat p) v (Int32.ofNat i) u) (fun v => some (v, u)) (fun v a => v = Int32.ofNat a) (fun a c => match z_ci c with | none => a | some t => if z_isp nw x.2.1 tc p t = true then a + 1 else a)
    (fun f v a _ => by
      show f_M_timesNamed_54 (f + 1) _ _ _ _ _ u = _
      rw [f_M_timesNamed_54, x_gR, (m_at hm m_k2625).1, x_aI (by omega) (by rw [(m_at hm m_k2625).2]; exact s1), c6, if_pos (by rw [x_le (by omega) (by omega)]; exact Nat.le_refl _)])
    (fun f i v a hi hI => by
      obtain ⟨c, h1, h2, h3⟩ := cn i hi
      have st : f_M_timesNamed_54 (f + 1) (some 1) (Int32.ofNat s) (Int32.ofNat p) v (Int32.ofNat i) u = (if g_AI u 3284 c = 2 then g_gR u 3777 (some 1) fun p7 => g_gR u 4161 (some 1) fun p8 => g_aI u p8 (Int32.ofNat c) fun i9 => g_aI u p7 i9 fun i10 => if i10 = (10 + Int32.ofNat p) then f_M_timesNamed_54 f (some 1) (Int32.ofNat s) (Int32.ofNat p) (v + 1) (Int32.ofNat (i + 1)) u else f_M_timesNamed_54 f (some 1) (Int32.ofNat s) (Int32.ofNat p) v (Int32.ofNat (i + 1)) u else f_M_timesNamed_54 f (some 1) (Int32.ofNat s) (Int32.ofNat p) v (Int32.ofNat (i + 1)) u) := by
        rw [f_M_timesNamed_54, x_gR, (m_at hm m_k2625).1, x_aI (by omega) (by rw [(m_at hm m_k2625).2]; exact s1), c6, if_neg (by rw [x_le (by omega) (by omega)]; omega), x_gR, (m_at hm m_k2689).1, show (6 : Int32) * Int32.ofNat s + Int32.ofNat i = Int32.ofNat (6 * s + i) from (by rw [Int32.ofNat_add, Int32.ofNat_mul]; rfl), x_aI (by omega) (by rw [(m_at hm m_k2689).2]; omega), h2, x_gR, (m_at hm m_k3905).1, x_aI (by omega) (by rw [(m_at hm m_k3905).2]; exact h1), x_p1, Int32.add_zero]
      revert h3
      cases y.2.2.2.getD i z_co0 with
      | inl b =>
        intro h3
        refine ⟨v, ?_, hI⟩
        show f_M_timesNamed_54 (f + 1) _ _ _ _ _ u = _
        rw [st, if_neg h3]
      | inr z =>
        intro h3
        obtain ⟨h3, k, h4, h5, h6, h7⟩ := h3
        refine ⟨_, ?_, rfl⟩
        show f_M_timesNamed_54 (f + 1) _ _ _ _ _ u = f_M_timesNamed_54 f _ _ _ (Int32.ofNat (if z_isp nw x.2.1 tc p z.1 = true then a + 1 else a)) _ u
        rw [st, if_pos h3, x_gR, (m_at hm m_k3777).1, x_gR, (m_at hm m_k4161).1, x_aI (by omega) (by rw [(m_at hm m_k4161).2]; exact h1), h5, x_aI (by omega) (by rw [(m_at hm m_k3777).2]; omega), h7, hI, x_p1]
        have e := z_mcp hp (m4 z.1) (m5 z.1)
        unfold z_isp
        by_cases w : z_mng nw x.2.1 tc z.1 = some (.inl p)
        · rw [if_pos (by rw [e]; exact w), if_pos (decide_eq_true w)]
        · rw [if_neg (by rw [e]; exact w), if_neg (by rw [decide_eq_true_eq]; exact w)])
    y.2.2.2 0 v1 _ 200000 rfl (Nat.zero_le _) (by omega) r2
  have ez : z_tnm nw x.2.1 tc p y = y.2.2.2.foldl (fun a c => match z_ci c with | none => a | some t => if z_isp nw x.2.1 tc p t = true then a + 1 else a) (y.2.2.1.foldl (fun a t => if z_isp nw x.2.1 tc p t = true then a + 1 else a) 0) := by
    unfold z_tnm z_srt
    rw [List.foldl_append, z_fmap (fun a t => if z_isp nw x.2.1 tc p t = true then a + 1 else a)]
  rw [ez]
  unfold f_M_timesNamed
  rw [← e2]
  exact r1.trans e1
end
