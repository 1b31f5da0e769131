/-! THE CHECK: components, whole; what is barred (reference) -/
theorem z_for_bit {α : Type} (F : α → Nat) (j : Nat) : ∀ (l : List α) (a : Nat), (l.foldl (fun a t => a ||| F t) a).testBit j = true ↔ a.testBit j = true ∨ ∃ t ∈ l, (F t).testBit j = true := by
  intro l
  induction l with
  | nil => intro a; exact ⟨Or.inl, fun h => h.elim id (fun ⟨t, h, _⟩ => by cases h)⟩
  | cons x l ih =>
    intro a
    rw [List.foldl_cons, ih, Nat.testBit_or, Bool.or_eq_true]
    constructor
    · rintro ((h | h) | ⟨t, h1, h2⟩)
      · exact Or.inl h
      · exact Or.inr ⟨x, List.mem_cons_self .., h⟩
      · exact Or.inr ⟨t, List.mem_cons_of_mem _ h1, h2⟩
    · rintro (h | ⟨t, h1, h2⟩)
      · exact Or.inl (Or.inl h)
      · rcases List.mem_cons.mp h1 with e | e
        · rw [e] at h2; exact Or.inl (Or.inr h2)
        · exact Or.inr ⟨t, e, h2⟩
theorem z_pn_bit {m : z_Mn} {j : Nat} : (z_pn m).testBit j = true ↔ m = some (.inl j) := by
  cases m with
  | none => exact ⟨fun h => (by rw [show z_pn none = 0 from rfl, Nat.zero_testBit] at h; cases h), fun h => by cases h⟩
  | some v =>
    cases v with
    | inl k =>
      rw [show z_pn (some (.inl k)) = 2 ^ k from rfl, Nat.testBit_two_pow, decide_eq_true_eq]
      exact ⟨fun h => by rw [h], fun h => by cases h; rfl⟩
    | inr k => exact ⟨fun h => (by rw [show z_pn (some (.inr k)) = 0 from rfl, Nat.zero_testBit] at h; cases h), fun h => by cases h⟩
theorem z_nmd_bit {nw : Nat → Nat} {ps : List z_Pa} {tc : Nat} {y : z_Se} {j : Nat} : (z_nmd nw ps tc y).testBit j = true ↔ ∃ t ∈ z_srt y, z_mng nw ps tc t = some (.inl j) := by
  unfold z_nmd
  rw [z_for_bit (fun t => z_pn (z_mng nw ps tc t)) j, Nat.zero_testBit]
  constructor
  · rintro (h | ⟨t, h1, h2⟩)
    · cases h
    · exact ⟨t, h1, z_pn_bit.mp h2⟩
  · rintro ⟨t, h1, h2⟩
    exact Or.inr ⟨t, h1, z_pn_bit.mpr h2⟩
theorem z_edg_bit {nw : Nat → Nat} {x : z_Qu} {tc k j : Nat} : (z_edg nw x tc k).testBit j = true ↔ ∃ y ∈ (x.2.1.getD k z_pa0).2.2.1, ∃ t ∈ z_srt y, z_mng nw x.2.1 tc t = some (.inl j) := by
  unfold z_edg
  rw [z_for_bit (fun y => z_nmd nw x.2.1 tc y) j, Nat.zero_testBit]
  constructor
  · rintro (h | ⟨t, h1, h2⟩)
    · cases h
    · exact ⟨t, h1, z_nmd_bit.mp h2⟩
  · rintro ⟨t, h1, h2⟩
    exact Or.inr ⟨t, h1, z_nmd_bit.mpr h2⟩
/-- what each part reaches -/
def z_rch (nw : Nat → Nat) (x : z_Qu) (tc : Nat) : Nat → Nat := z_c4 x.2.1.length 4 (z_edg nw x tc)
def z_cmp (nw : Nat → Nat) (x : z_Qu) (tc : Nat) : (Nat → Nat) × Nat := z_ord x.2.1.length (z_rch nw x tc) x.2.1.length 0 0 (fun _ => 0)
theorem z_rch_bd {nw : Nat → Nat} {x : z_Qu} {tc i j : Nat} (hi : i < x.2.1.length) (h : z_Pb (z_rch nw x tc) i j) : j < x.2.1.length :=
  z_c4_sub (S := fun _ j => j < x.2.1.length) (fun _ _ _ _ _ _ h => h) 4 (z_edg nw x tc) (fun a j _ h => by
    obtain ⟨y, _, t, _, h3⟩ := z_edg_bit.mp h
    exact z_mng_lt.1 j h3) i j hi h
section
variable {n : Nat} {kd pl nw nv : Nat → Nat} {wd vl : Nat → Int64}
/-- what the reference knows of the components -/
def M_cs (u : g_St) (nw : Nat → Nat) (x : z_Qu) (tc : Nat) : Prop := M_rh u x.2.1.length (z_rch nw x tc) ∧ M_cp u x.2.1.length (2 ^ x.2.1.length - 1) (z_cmp nw x tc).2 (z_cmp nw x tc).1
theorem b_fc {u0 : g_St} {C : Nat → Nat} {x : z_Qu} {tc : Nat} {cols : Nat → Nat} (K : M_ck n kd pl vl u0 C x tc cols) (hA : M_all n kd nw u0 C x tc cols) : ∃ u', f_M_findComponents (some 1) u0 = some ((), u') ∧ z_W [4865] z_wC u0 u' ∧ M_cs u' nw x tc := by
  obtain ⟨u1, a1, a2, a3⟩ := b_fc1 K hA
  have q4 := K.2.2.1.2.2.2.1
  have N0 : M_np u0 x.2.1.length := ⟨K.1, by rw [K.2.2.1.1 1153 (by decide), K.2.2.1.2.2.1], q4⟩
  have N1 := N0.W a2 (by decide)
  obtain ⟨u2, b1, b2, b3⟩ := b_cl4 N1 4 0 200000 u1 (z_edg nw x tc) (by omega) (by omega) z_W.re (fun k hk => ⟨(a3 k hk).2.1, (a3 k hk).2.2.2⟩)
  have b1' : f_M_findComponents_84 200000 (some 1) 0 u1 = f_M_findComponents_163 200000 (some 1) 0 (g_setI u2 4865 1 0) := b1
  have W3 : z_W [4865] [3988] u1 (g_setI u2 4865 1 0) := (b2.mono (fun _ h => by cases h) (fun _ h => h)).pI (by decide) _
  have N3 := N1.W W3 (by decide)
  obtain ⟨u', c1, c2, c3⟩ := b_ord N3 (r := z_rch nw x tc) b3 (z_c4_tr q4 _) (fun i j hi h => z_rch_bd hi h) x.2.1.length 0 0 (fun _ => 0) 200000 (g_setI u2 4865 1 0) (z_uc_le _ _) (by omega) (Nat.two_pow_pos _) (by omega) z_W.re ⟨fun k hk => by
    rw [Nat.zero_testBit, if_neg (by decide)]
    show g_AI u2 4052 k = -1
    rw [(b2.2.2.2.2.2.2.2.2 4052 (by decide)).1]
    exact (a3 k hk).2.2.1, fun _ => by show (0 : Nat) < 10; decide, by rw [x_I_I, if_pos ⟨rfl, rfl⟩]; rfl, by decide⟩
  refine ⟨u', ?_, ((a2.mono (fun _ h => by cases h) (fun _ h => h)).trans (W3.mono (fun _ h => h) (by decide))).trans (c2.mono (fun _ h => h) (by decide)), fun k hk => ?_, c3⟩
  · rw [a1, b1']
    exact c1
  · rw [(c2.2.2.2.2.2.2.2.2 3988 (by decide)).1]
    exact b3 k hk
theorem z_and16 : ∀ a b : Fin 16, decide ((Int32.ofNat a.1 &&& Int32.ofNat b.1) = 0) = decide (a.1 &&& b.1 = 0) := by decide +kernel
theorem z_and16' {a b : Nat} (ha : a < 16) (hb : b < 16) : ((Int32.ofNat a &&& Int32.ofNat b) = 0) = (a &&& b = 0) := by
  have := z_and16 ⟨a, ha⟩ ⟨b, hb⟩
  by_cases w : a &&& b = 0
  · exact propext ⟨fun _ => w, fun _ => of_decide_eq_true (this.trans (decide_eq_true w))⟩
  · exact propext ⟨fun h => absurd h (of_decide_eq_false (this.trans (decide_eq_false w))), fun h => absurd h w⟩
/-- a note of any kind -/
def z_ntb (m : Nat) (b : Bool) (a : Option (Nat × Nat)) (p : Nat) : Option (Nat × Nat) := if b = true then z_nt a m p else a
def z_inm (nw : Nat → Nat) (ps : List z_Pa) (tc mask t : Nat) : Bool := decide (¬ z_pn (z_mng nw ps tc t) &&& mask = 0)
/-- sources that a recursive part may not name there -/
def z_bar (nw pl : Nat → Nat) (ps : List z_Pa) (tc mask : Nat) (y : z_Se) (a : Option (Nat × Nat)) : Option (Nat × Nat) := y.2.2.2.foldl (fun a c => match z_ci c with | none => a | some t => z_ntb 5 (z_inm nw ps tc mask t) a (pl t)) (if (y.2.1.any fun i => decide (i.1 ≠ 0)) = true then y.2.2.1.foldl (fun a t => z_ntb 5 (z_inm nw ps tc mask t) a (pl t)) a else a)
theorem b_bar (H : z_H n kd) (hpl : ∀ i, i ≤ n → pl i ≤ 400) {u0 : g_St} {C : Nat → Nat} {x : z_Qu} {tc : Nat} {cols : Nat → Nat} (K : M_ck n kd pl vl u0 C x tc cols) (hA : M_all n kd nw u0 C x tc cols) {s ow : Nat} {y : z_Se} (h : M_rse n kd nw u0 C x.2.1 tc cols s y) (g : M_se pl u0 C s ow y) {p q : Nat} (hx : z_wse kd p q y) (hq : q ≤ n) {mask : Nat} (hk : mask < 16) {a0 : Option (Nat × Nat)} (ha : M_nt u0 a0) : ∃ u', f_M_checkBarred (some 1) (Int32.ofNat s) (Int32.ofNat mask) u0 = some ((), u') ∧ z_W [833, 897] [] u0 u' ∧ M_nt u' (z_bar nw pl x.2.1 tc mask y a0) := by
  have hn := H.2.1
  have q4 := K.2.2.1.2.2.2.1
  have t5 := K.2.2.2.2.1
  have lim : z_lim C := K.2.2.1.2.2.2.2.2.2.2.2.2.2
  obtain ⟨k0, s1, s2, s3, s4, s5, s6⟩ := h.1
  have cn := h.con lim g
  have fo := g.2.2.2.2.2.1
  have c6 := g.2.2.2.2.2.2.2.2.1
  have c7 := g.2.2.2.2.2.2.2.2.2.2.2.2
  have m4 : ∀ t j, z_mng nw x.2.1 tc t = some (.inl j) → j < 4 := fun t j e => by have := z_mng_lt.1 j e; omega
  have m5 : ∀ t j, z_mng nw x.2.1 tc t = some (.inr j) → j < 5 := fun t j e => by have := z_mng_lt.2 j e; omega
  have l3 := lim.2.2.2.2.1
  have k3 := s4.1
  obtain ⟨-, ca, cb, x1, x2, x3⟩ := hx
  have Au : ∀ {u : g_St}, z_W [833, 897] [] u0 u → ∀ a, g_AI u a = g_AI u0 a := fun w a => (w.2.2.2.2.2.2.2.2 a (by intro h; cases h)).1
  have tk : ∀ {u : g_St}, z_W [833, 897] [] u0 u → ∀ t, t < n → g_AI u 1172 t = Int32.ofNat (pl t) := fun w t ht => by rw [Au w]; exact (K.2.1 t (by omega)).2.1
  -- one source is looked at
  have one : ∀ u a t, z_W [833, 897] [] u0 u → M_nt u a → t < n → ∃ v, (∀ (β : Type) (F G : g_St → Option β), (F = G) → (if (Int32.ofNat (z_pn (z_mng nw x.2.1 tc t)) &&& Int32.ofNat mask) = 0 then F u else g_c (f_M_note (some 1) 5 (Int32.ofNat (pl t)) u) fun _ s => G s) = F v) ∧ z_W [833, 897] [] u0 v ∧ M_nt v (z_ntb 5 (z_inm nw x.2.1 tc mask t) a (pl t)) := by
    intro u a t hw hnt ht
    obtain ⟨v, n1, n2, n3⟩ := b_nt hnt (m := 5) (p := pl t) (by decide) (by decide) (hpl _ (by omega))
    have e := z_and16' (z_pn_lt (m4 t)) hk
    have n1' : f_M_note (some 1) 5 (Int32.ofNat (pl t)) u = some ((), v) := n1
    unfold z_inm
    by_cases w : z_pn (z_mng nw x.2.1 tc t) &&& mask = 0
    · refine ⟨u, fun β F G _ => by rw [if_pos (by rw [e]; exact w)], hw, ?_⟩
      rw [decide_eq_false (fun q => q w)]
      exact hnt
    · refine ⟨v, fun β F G hFG => by rw [if_neg (by rw [e]; exact w), n1', x_c, hFG], hw.trans n3, ?_⟩
      rw [decide_eq_true w]
      exact n2
  -- the second loop
  have second : ∀ u a, z_W [833, 897] [] u0 u → M_nt u a → ∃ u', f_M_checkBarred_69 200000 (some 1) (Int32.ofNat s) (Int32.ofNat mask) 0 u = some ((), u') ∧ z_W [833, 897] [] u0 u' ∧ M_nt u' (y.2.2.2.foldl (fun a c => match z_ci c with | none => a | some t => z_ntb 5 (z_inm nw x.2.1 tc mask t) a (pl t)) a) := by
    intro u a hw hnt
    obtain ⟨u', e1, e2, e3⟩ := z_fr y.2.2.2 z_co0 (fun f i v => f_M_checkBarred_69 f (some 1) (Int32.ofNat s) (Int32.ofNat mask) (Int32.ofNat i) v) (fun v => some ((), v)) (fun v a => z_W [833, 897] [] u0 v ∧ M_nt v a) (fun a c => match z_ci c with | none => a | some t => z_ntb 5 (z_inm nw x.2.1 tc mask t) a (pl t))
      (fun f v a hI => by
        have hm := hI.1.fx K.1
        show f_M_checkBarred_69 (f + 1) _ _ _ _ v = _
        rw [f_M_checkBarred_69, x_gR, (m_at hm m_k2625).1, x_aI (by omega) (by rw [(m_at hm m_k2625).2]; exact s1), Au hI.1, c6, if_pos (by rw [x_le (by omega) (by omega)]; exact Nat.le_refl _)])
      (fun f i v a hi hI => by
        have hm := hI.1.fx K.1
        obtain ⟨c, h1, h2, h3⟩ := cn i hi
        obtain ⟨p2, q2, g1, g2, g3⟩ := x3.all _ (z_getD_m (d := z_co0) hi)
        revert h3 g3
        cases y.2.2.2.getD i z_co0 with
        | inl b =>
          intro h3 g3
          refine ⟨v, ?_, hI⟩
          show f_M_checkBarred_69 (f + 1) _ _ _ _ v = _
          rw [f_M_checkBarred_69, x_gR, (m_at hm m_k2625).1, x_aI (by omega) (by rw [(m_at hm m_k2625).2]; exact s1), Au hI.1, c6, if_neg (by rw [x_le (by omega) (by omega)]; omega), x_gR, (m_at hm m_k2689).1, show (6 : Int32) * Int32.ofNat s + Int32.ofNat i = Int32.ofNat (6 * s + i) from (by rw [Int32.ofNat_add, Int32.ofNat_mul]; rfl), x_aI (by omega) (by rw [(m_at hm m_k2689).2]; omega), Au hI.1, h2, x_gR, (m_at hm m_k3905).1, x_aI (by omega) (by rw [(m_at hm m_k3905).2]; exact h1), Au hI.1, if_neg h3, x_p1]
        | inr z =>
          intro h3 g3
          obtain ⟨h3, k, h4, h5, h6, h7⟩ := h3
          have zl : z.1 < n := by have := g3.2.2.2.le; omega
          obtain ⟨w, w1, w2, w3⟩ := one v a z.1 hI.1 hI.2 zl
          refine ⟨w, ?_, w2, w3⟩
          show f_M_checkBarred_69 (f + 1) _ _ _ _ v = _
          rw [f_M_checkBarred_69, x_gR, (m_at hm m_k2625).1, x_aI (by omega) (by rw [(m_at hm m_k2625).2]; exact s1), Au hI.1, c6, if_neg (by rw [x_le (by omega) (by omega)]; omega), x_gR, (m_at hm m_k2689).1, show (6 : Int32) * Int32.ofNat s + Int32.ofNat i = Int32.ofNat (6 * s + i) from (by rw [Int32.ofNat_add, Int32.ofNat_mul]; rfl), x_aI (by omega) (by rw [(m_at hm m_k2689).2]; omega), Au hI.1, h2, x_gR, (m_at hm m_k3905).1, x_aI (by omega) (by rw [(m_at hm m_k3905).2]; exact h1), Au hI.1, if_pos h3, x_gR, (m_at hm m_k4161).1, x_aI (by omega) (by rw [(m_at hm m_k4161).2]; exact h1), Au hI.1, h5, x_nn, b_pnd hm h4 (by rw [Au hI.1]; exact h7) (m4 _) (m5 _), x_c, x_gR, (m_at hm m_k705).1, x_gR, (m_at hm m_k3649).1, x_gR, (m_at hm m_k4161).1, x_aI (by omega) (by rw [(m_at hm m_k4161).2]; exact h1), Au hI.1, h5, x_aI (by omega) (by rw [(m_at hm m_k3649).2]; exact h4), Au hI.1, h6.1, x_aI (by omega) (by rw [(m_at hm m_k705).2]; omega), tk hI.1 _ zl, x_nn, x_p1]
          exact w1 (Unit × g_St) (fun v => f_M_checkBarred_69 f (some 1) (Int32.ofNat s) (Int32.ofNat mask) (Int32.ofNat (i + 1)) v) _ rfl)
      y.2.2.2 0 u a 200000 rfl (Nat.zero_le _) (by omega) ⟨hw, hnt⟩
    exact ⟨u', e1, e2, e3⟩
  unfold z_bar f_M_checkBarred
  cases hb : (y.2.1.any fun i => decide (i.1 ≠ 0)) with
  | false =>
    have f0 : g_AI u0 159 s = 0 := by rw [fo]; unfold z_fol; rw [hb]; rfl
    rw [if_neg (by decide), show (200000 : Nat) = 199999 + 1 from rfl, f_M_checkBarred_2, x_gR, (m_at K.1 m_k2753).1, x_aI (by omega) (by rw [(m_at K.1 m_k2753).2]; exact s1), f0, if_pos rfl]
    exact second u0 a0 z_W.re ha
  | true =>
    have f0 : g_AI u0 159 s = 1 := by rw [fo]; unfold z_fol; rw [hb]; rfl
    rw [if_pos rfl]
    obtain ⟨u1, e1, e2, e3⟩ := z_fr y.2.2.1 0 (fun f i v => f_M_checkBarred_2 f (some 1) (Int32.ofNat s) (Int32.ofNat mask) (Int32.ofNat i) v) (fun v => f_M_checkBarred_69 200000 (some 1) (Int32.ofNat s) (Int32.ofNat mask) 0 v) (fun v a => z_W [833, 897] [] u0 v ∧ M_nt v a) (fun a t => z_ntb 5 (z_inm nw x.2.1 tc mask t) a (pl t))
      (fun f v a hI => by
        have hm := hI.1.fx K.1
        show f_M_checkBarred_2 (f + 1) _ _ _ _ v = _
        rw [f_M_checkBarred_2, x_gR, (m_at hm m_k2753).1, x_aI (by omega) (by rw [(m_at hm m_k2753).2]; exact s1), Au hI.1, f0, if_neg (by decide), x_gR, (m_at hm m_k2561).1, x_aI (by omega) (by rw [(m_at hm m_k2561).2]; exact s1), Au hI.1, s2, if_pos (by rw [x_le (by omega) (by omega)]; exact Nat.le_refl _)])
      (fun f i v a hi hI => by
        have hm := hI.1.fx K.1
        obtain ⟨w, w1, w2, w3⟩ := one v a _ hI.1 hI.2 (s6 i hi).1.1
        have tl := (s6 i hi).1.1
        refine ⟨w, ?_, w2, w3⟩
        show f_M_checkBarred_2 (f + 1) _ _ _ _ v = _
        rw [f_M_checkBarred_2, x_gR, (m_at hm m_k2753).1, x_aI (by omega) (by rw [(m_at hm m_k2753).2]; exact s1), Au hI.1, f0, if_neg (by decide), x_gR, (m_at hm m_k2561).1, x_aI (by omega) (by rw [(m_at hm m_k2561).2]; exact s1), Au hI.1, s2, if_neg (by rw [x_le (by omega) (by omega)]; omega), x_gR, (m_at hm m_k2497).1, x_aI (by omega) (by rw [(m_at hm m_k2497).2]; exact s1), Au hI.1, s3, x_add, x_nn, b_pnd hm (by omega) (by rw [Au hI.1]; exact (s6 i hi).2.2) (m4 _) (m5 _), x_c, x_gR, (m_at hm m_k705).1, x_gR, (m_at hm m_k3649).1, x_gR, (m_at hm m_k2497).1, x_aI (by omega) (by rw [(m_at hm m_k2497).2]; exact s1), Au hI.1, s3, x_add, x_aI (by omega) (by rw [(m_at hm m_k3649).2]; omega), Au hI.1, (s4.2 i hi).1, x_aI (by omega) (by rw [(m_at hm m_k705).2]; omega), tk hI.1 _ tl, x_nn, x_p1]
        exact w1 (Unit × g_St) (fun v => f_M_checkBarred_2 f (some 1) (Int32.ofNat s) (Int32.ofNat mask) (Int32.ofNat (i + 1)) v) _ rfl)
      y.2.2.1 0 u0 a0 200000 rfl (Nat.zero_le _) (by omega) ⟨z_W.re, ha⟩
    obtain ⟨u', g1, g2, g3⟩ := second u1 _ e2 e3
    exact ⟨u', e1.trans g1, g2, g3⟩
end
