/-! THE CHECK: an expression is resolved (reference) -/
def z_tmn (N : Nat → Nat) (ps : List z_Pa) (tc : Nat) (srs : List Nat) (wi sl : Option Nat) : z_Mn := match sl with
  | none => none
  | some k => if k = 3 then (match wi with
      | none => none
      | some w => z_mng N ps tc w) else z_mng N ps tc (srs.getD k 0)
def z_tcl (N : Nat → Nat) (ps : List z_Pa) (tc : Nat) (cols : Nat → Nat) (srs : List Nat) (wi : Option Nat) (p : Nat) : Option Nat := z_cln N ps cols (z_tmn N ps tc srs wi (z_slt N srs p wi)) (p + 2)
def z_tbad (o : Bool) (c : Option Nat) : Bool := match c with
  | none => true
  | some i => decide (i = 4) && !o
theorem z_pcl_le {N : Nat → Nat} {x : z_Pa} {q i : Nat} (hx : x.2.1.length ≤ 3) (h : z_pcl N x q = some i) : i ≤ 4 := by
  unfold z_pcl at h
  cases hz : z_ff (fun i => decide (N (x.2.1.getD i 0) = N q)) x.2.1.length 0 with
  | some y => rw [hz] at h; cases h; have := (z_ff_some hz).2.1; omega
  | none =>
    rw [hz] at h
    simp only [] at h
    by_cases w : z_mark N x q = true
    · rw [if_pos w] at h; cases h; omega
    · rw [if_neg w] at h
      by_cases w' : z_trl N x q = true
      · rw [if_pos w'] at h; cases h; omega
      · rw [if_neg w'] at h; cases h
theorem z_cc_bad {N : Nat → Nat} {ps : List z_Pa} {cols : Nat → Nat} {m : z_Mn} {q : Nat} {o : Bool} (h1 : ∀ k, (ps.getD k z_pa0).2.1.length ≤ 3) (h2 : ∀ t, m = some (.inr t) → cols t ≤ 3) : (z_cc ps m o (z_cln N ps cols m q) = -1) = (z_tbad o (z_cln N ps cols m q) = true) := by
  cases m with
  | none => exact propext ⟨fun _ => rfl, fun _ => rfl⟩
  | some mm =>
    cases mm with
    | inr t =>
      have c3 := h2 t rfl
      show ((match z_ff (fun k => decide (N q = 97 + k)) (cols t) 0 with | none => (-1 : Int32) | some i => Int32.ofNat i) = -1) = (z_tbad o (z_ff (fun k => decide (N q = 97 + k)) (cols t) 0) = true)
      cases hz : z_ff (fun k => decide (N q = 97 + k)) (cols t) 0 with
      | none => exact propext ⟨fun _ => rfl, fun _ => rfl⟩
      | some i =>
        have := (z_ff_some hz).2.1
        refine propext ⟨fun e => absurd e (z_oc_n (by omega)), fun e => ?_⟩
        have e' : (decide (i = 4) && !o) = true := e
        rw [decide_eq_false (by omega)] at e'
        cases e'
    | inl k =>
      show ((match z_pcl N (ps.getD k z_pa0) q with | none => (-1 : Int32) | some i => if i < 3 then Int32.ofNat i else if i = 3 then Int32.ofNat (ps.getD k z_pa0).2.1.length else if o = true then 100 else -1) = -1) = (z_tbad o (z_pcl N (ps.getD k z_pa0) q) = true)
      cases hz : z_pcl N (ps.getD k z_pa0) q with
      | none => exact propext ⟨fun _ => rfl, fun _ => rfl⟩
      | some i =>
        have h4 := z_pcl_le (h1 k) hz
        have h3 := h1 k
        show ((if i < 3 then Int32.ofNat i else if i = 3 then Int32.ofNat (ps.getD k z_pa0).2.1.length else if o = true then 100 else -1) = (-1 : Int32)) = ((decide (i = 4) && !o) = true)
        by_cases w1 : i < 3
        · rw [if_pos w1, decide_eq_false (by omega)]
          exact propext ⟨fun e => absurd e (z_oc_n (by omega)), fun e => by cases e⟩
        · rw [if_neg w1]
          by_cases w2 : i = 3
          · rw [if_pos w2, decide_eq_false (by omega)]
            exact propext ⟨fun e => absurd e (z_oc_n (by omega)), fun e => by cases e⟩
          · rw [if_neg w2, decide_eq_true (by omega)]
            cases o with
            | true => rw [if_pos rfl]; exact propext ⟨(fun e => by cases e), (fun e => by cases e)⟩
            | false => rw [if_neg (by decide)]; exact propext ⟨fun _ => rfl, fun _ => rfl⟩
/-- the notes that an expression gives -/
def z_xnt (bad : Nat → Bool) (pl : Nat → Nat) (a : Option (Nat × Nat)) (L : z_Ex) : Option (Nat × Nat) := L.foldl (fun a x => z_nti2 (decide (x.2.1 = 2) && bad x.2.2) a (pl x.2.2)) a
/-- a selection's sources, resolved -/
def M_ss (n : Nat) (kd : Nat → Nat) (nw : Nat → Nat) (u : g_St) (C : Nat → Nat) (ps : List z_Pa) (tc s k0 : Nat) (srs : List Nat) : Prop := s < 17 ∧ g_AI u 2324 s = Int32.ofNat srs.length ∧ g_AI u 2260 s = Int32.ofNat k0 ∧ M_sos u C k0 srs ∧ srs.length ≤ 3 ∧ ∀ j, j < srs.length → z_isn n kd (srs.getD j 0) ∧ z_isn n kd (srs.getD j 0 + 1) ∧ g_AI u 3220 (k0 + j) = z_mc (z_mng nw ps tc (srs.getD j 0))
/-- the source of a NOT EXISTS, resolved -/
def M_wi (n : Nat) (kd : Nat → Nat) (nw : Nat → Nat) (u : g_St) (ps : List z_Pa) (tc : Nat) (wi : Option (Nat × Nat)) : Prop := ∀ y, wi = some y → y.1 < 100 ∧ M_so u y.1 y.2 ∧ z_isn n kd y.2 ∧ z_isn n kd (y.2 + 1) ∧ g_AI u 3220 y.1 = z_mc (z_mng nw ps tc y.2)
theorem M_ss.W {n : Nat} {kd nw : Nat → Nat} {wI wA : List Nat} {u v : g_St} {C : Nat → Nat} {ps : List z_Pa} {tc s k0 : Nat} {srs : List Nat} (h : M_ss n kd nw u C ps tc s k0 srs) (w : z_W wI wA u v) (h1 : ∀ a ∈ [2324, 2260, 3092, 3156, 3220], a ∉ wA) : M_ss n kd nw v C ps tc s k0 srs := by
  have A : ∀ a, a ∈ [2324, 2260, 3092, 3156, 3220] → g_AI v a = g_AI u a := fun a ha => (w.2.2.2.2.2.2.2.2 a (h1 a ha)).1
  obtain ⟨a1, a2, a3, ⟨a4, a5⟩, a6, a7⟩ := h
  refine ⟨a1, by rw [A _ (by decide)]; exact a2, by rw [A _ (by decide)]; exact a3, ⟨a4, fun j hj => ⟨by rw [A _ (by decide)]; exact (a5 j hj).1, by rw [A _ (by decide)]; exact (a5 j hj).2⟩⟩, a6, fun j hj => ⟨(a7 j hj).1, (a7 j hj).2.1, by rw [A _ (by decide)]; exact (a7 j hj).2.2⟩⟩
theorem M_wi.W {n : Nat} {kd nw : Nat → Nat} {wI wA : List Nat} {u v : g_St} {ps : List z_Pa} {tc : Nat} {wi : Option (Nat × Nat)} (h : M_wi n kd nw u ps tc wi) (w : z_W wI wA u v) (h1 : ∀ a ∈ [3092, 3156, 3220], a ∉ wA) : M_wi n kd nw v ps tc wi := by
  have A : ∀ a, a ∈ [3092, 3156, 3220] → g_AI v a = g_AI u a := fun a ha => (w.2.2.2.2.2.2.2.2 a (h1 a ha)).1
  intro y hy
  obtain ⟨a1, ⟨a2, a3⟩, a4, a5, a6⟩ := h y hy
  exact ⟨a1, ⟨by rw [A _ (by decide)]; exact a2, by rw [A _ (by decide)]; exact a3⟩, a4, a5, by rw [A _ (by decide)]; exact a6⟩
/-- an operand, resolved -/
def M_rop (nw : Nat → Nat) (u : g_St) (ps : List z_Pa) (tc : Nat) (cols : Nat → Nat) (srs : List Nat) (wi : Option Nat) (o t : Nat) : Prop := g_AI u 2964 o = z_oc (z_slt nw srs t wi) ∧ g_AI u 3028 o = z_cc ps (z_tmn nw ps tc srs wi (z_slt nw srs t wi)) false (z_tcl nw ps tc cols srs wi t)
theorem z_mng_lt {N : Nat → Nat} {ps : List z_Pa} {tc t : Nat} : (∀ k, z_mng N ps tc t = some (.inl k) → k < ps.length) ∧ ∀ k, z_mng N ps tc t = some (.inr k) → k < tc := by
  unfold z_mng
  cases hz : z_ff (fun k => decide (N (ps.getD k z_pa0).1 = N t)) ps.length 0 with
  | some y =>
    have := (z_ff_some hz).2.1
    exact ⟨(fun k e => by cases e; omega), (fun k e => by cases e)⟩
  | none =>
    simp only []
    cases hz2 : z_ff (fun k => decide (N t = 29744 + k)) tc 0 with
    | some y =>
      have := (z_ff_some hz2).2.1
      exact ⟨(fun k e => by cases e), (fun k e => by cases e; omega)⟩
    | none => exact ⟨(fun k e => by cases e), (fun k e => by cases e)⟩
theorem z_tmn_lt {N : Nat → Nat} {ps : List z_Pa} {tc : Nat} {srs : List Nat} {wi sl : Option Nat} : (∀ k, z_tmn N ps tc srs wi sl = some (.inl k) → k < ps.length) ∧ ∀ k, z_tmn N ps tc srs wi sl = some (.inr k) → k < tc := by
  unfold z_tmn
  cases sl with
  | none => exact ⟨(fun k e => by cases e), (fun k e => by cases e)⟩
  | some j =>
    simp only []
    by_cases w : j = 3
    · rw [if_pos w]
      cases wi with
      | none => exact ⟨(fun k e => by cases e), (fun k e => by cases e)⟩
      | some y => exact z_mng_lt
    · rw [if_neg w]; exact z_mng_lt
theorem z_slt_lt {N : Nat → Nat} {srs : List Nat} {p : Nat} {wi : Option Nat} {k : Nat} (h : z_slt N srs p wi = some k) : k < srs.length ∨ (k = 3 ∧ ∃ w, wi = some w) := by
  unfold z_slt at h
  cases hz : z_ff (fun k => decide (N (srs.getD k 0 + 1) = N p)) srs.length 0 with
  | some y => rw [hz] at h; cases h; have := (z_ff_some hz).2.1; exact Or.inl (by omega)
  | none =>
    rw [hz] at h
    cases wi with
    | none => cases h
    | some w =>
      simp only [] at h
      by_cases y : N (w + 1) = N p
      · rw [if_pos y] at h; cases h; exact Or.inr ⟨rfl, w, rfl⟩
      · rw [if_neg y] at h; cases h
section
variable {n : Nat} {kd pl nw nv : Nat → Nat} {wd vl : Nat → Int64}
theorem b_rex (NM : z_NM n kd wd vl nw nv) (H : z_H n kd) (hpl : ∀ i, i ≤ n → pl i ≤ 400) {u0 : g_St} {C : Nat → Nat} {x : z_Qu} {tc : Nat} {cols : Nat → Nat} (K : M_ck n kd pl vl u0 C x tc cols) (hp : ∀ k, k < x.2.1.length → z_pnm n kd (x.2.1.getD k z_pa0)) (hw3 : ∀ k, (x.2.1.getD k z_pa0).2.1.length ≤ 3) {s k0 : Nat} {srs : List Nat} (hs : M_ss n kd nw u0 C x.2.1 tc s k0 srs) {wi : Option (Nat × Nat)} (hwi : M_wi n kd nw u0 x.2.1 tc wi) {N e : Nat} (hN : N ≤ 205) (he : e < 210) {L : z_Ex} (hL : M_ex u0 N e L) {p q : Nat} (hx : z_wex kd p q L) (hq : q ≤ n) {a0 : Option (Nat × Nat)} (ha : M_nt u0 a0) :
    ∃ u', f_M_resolveExpression (some 1) (Int32.ofNat s) (Int32.ofNat e) (z_wic wi) u0 = some ((), u') ∧ z_W [833, 897] [2964, 3028] u0 u' ∧ (∃ o, g_AI u0 2644 e = Int32.ofNat o ∧ M_ops u0 o L ∧ o + L.length ≤ N ∧ (∀ i, (∀ j, j < L.length → i ≠ o + j) → g_AI u' 2964 i = g_AI u0 2964 i ∧ g_AI u' 3028 i = g_AI u0 3028 i) ∧ ∀ j, j < L.length → (L.getD j (false, 0, 0)).2.1 = 2 → M_rop nw u' x.2.1 tc cols srs (wi.map (·.2)) (o + j) (L.getD j (false, 0, 0)).2.2) ∧ M_nt u' (z_xnt (fun t => z_tbad false (z_tcl nw x.2.1 tc cols srs (wi.map (·.2)) t)) pl a0 L) := by
  obtain ⟨o, hL1, hL2, hL3, hL4⟩ := hL
  have hn := H.2.1
  obtain ⟨hs1, hs2, hs3, hs4, hs5, hs6⟩ := hs
  have lim : z_lim C := K.2.2.1.2.2.2.2.2.2.2.2.2.2
  have hA : ∀ {v : g_St}, z_W [833, 897] [2964, 3028] u0 v → ∀ a, a ∉ [2964, 3028] → g_AI v a = g_AI u0 a := fun w a ha => (w.2.2.2.2.2.2.2.2 a ha).1
  have key : ∀ (l : z_Ex) (i : Nat) (u : g_St) (a : Option (Nat × Nat)) (f : Nat), L.drop i = l → i ≤ L.length → l.length < f → z_W [833, 897] [2964, 3028] u0 u → M_nt u a →
      ∃ u', f_M_resolveExpression_3 f (some 1) (Int32.ofNat s) (Int32.ofNat e) (z_wic wi) (Int32.ofNat i) u = some ((), u') ∧ z_W [833, 897] [2964, 3028] u0 u' ∧ (∀ i', (∀ j, i ≤ j → j < L.length → i' ≠ o + j) → g_AI u' 2964 i' = g_AI u 2964 i' ∧ g_AI u' 3028 i' = g_AI u 3028 i') ∧ (∀ j, i ≤ j → j < L.length → (L.getD j (false, 0, 0)).2.1 = 2 → M_rop nw u' x.2.1 tc cols srs (wi.map (·.2)) (o + j) (L.getD j (false, 0, 0)).2.2) ∧ M_nt u' (z_xnt (fun t => z_tbad false (z_tcl nw x.2.1 tc cols srs (wi.map (·.2)) t)) pl a l) := by
    intro l
    induction l with
    | nil =>
      intro i u a f h1 h2 h3 h4 h5
      have hi : L.length ≤ i := List.drop_eq_nil_iff.mp h1
      obtain ⟨f, rfl⟩ : ∃ m, f = m + 1 := ⟨f - 1, by omega⟩
      have hm := h4.fx K.1
      refine ⟨u, ?_, h4, fun _ _ => ⟨rfl, rfl⟩, fun j h6 h7 => by omega, h5⟩
      rw [f_M_resolveExpression_3, x_gR, (m_at hm m_k3201).1, x_aI (by omega) (by rw [(m_at hm m_k3201).2]; exact he), hA h4 2708 (by decide), hL2, if_pos (by rw [x_le (by omega) (by omega)]; exact hi)]
    | cons y l ih =>
      intro i u a f h1 h2 h3 h4 h5
      have hi : i < L.length := by
        by_cases w : i < L.length
        · exact w
        · rw [List.drop_eq_nil_of_le (by omega)] at h1; cases h1
      have hdr : L.drop (i + 1) = l := by
        have := List.drop_drop (i := 1) (j := i) (l := L)
        rw [h1] at this
        rw [show i + 1 = i + 1 from rfl, ← this]; rfl
      have hyi : L.getD i (false, 0, 0) = y := by
        have := List.drop_eq_getElem_cons hi
        rw [h1] at this
        rw [List.getD_eq_getElem?_getD, List.getElem?_eq_getElem hi]
        exact (List.cons.inj this).1.symm
      obtain ⟨f, rfl⟩ : ∃ m, f = m + 1 := ⟨f - 1, by omega⟩
      have hm := h4.fx K.1
      have hmem : y ∈ L := by rw [← hyi]; exact z_getD_m hi
      obtain ⟨g1, g2, g3⟩ := hx y hmem
      have hop := hL3 i hi
      rw [hyi] at hop
      obtain ⟨o1, o2, o3⟩ := hop
      have oi : o + i < 210 := by omega
      have st0 : f_M_resolveExpression_3 (f + 1) (some 1) (Int32.ofNat s) (Int32.ofNat e) (z_wic wi) (Int32.ofNat i) u = (if 2 ≤ Int32.ofNat y.2.1 then g_gR u 3393 (some 1) fun p7 => g_aI u p7 (Int32.ofNat (o + i)) fun i8 => g_gR u 769 (some 1) fun p9 => g_aL u p9 i8 fun j10 => g_c (g_nn (some 1) (f_M_slotOf (some 1) (Int32.ofNat s) j10 (z_wic wi) u)) fun i11 s12 => g_gR s12 3457 (some 1) fun p13 => g_sI s12 p13 (Int32.ofNat (o + i)) i11 fun s14 => g_gR s14 3521 (some 1) fun p15 => if i11 = (-1) then f_M_resolveExpression_126 (f_M_resolveExpression_3 f) (some 1) (Int32.ofNat s) (Int32.ofNat e) (z_wic wi) (Int32.ofNat i) (Int32.ofNat (o + i)) i8 p15 (Int32.ofNat (o + i)) (-1) s14 else g_gR s14 3777 (some 1) fun p16 => if i11 = 3 then f_M_resolveExpression_112 (f_M_resolveExpression_3 f) (some 1) (Int32.ofNat s) (Int32.ofNat e) (z_wic wi) (Int32.ofNat i) (Int32.ofNat (o + i)) i8 p15 (Int32.ofNat (o + i)) (some 1) p16 (z_wic wi) s14 else g_gR s14 2497 (some 1) fun p17 => g_aI s14 p17 (Int32.ofNat s) fun i18 => f_M_resolveExpression_112 (f_M_resolveExpression_3 f) (some 1) (Int32.ofNat s) (Int32.ofNat e) (z_wic wi) (Int32.ofNat i) (Int32.ofNat (o + i)) i8 p15 (Int32.ofNat (o + i)) (some 1) p16 (i18 + i11) s14 else f_M_resolveExpression_3 f (some 1) (Int32.ofNat s) (Int32.ofNat e) (z_wic wi) (Int32.ofNat (i + 1)) u) := by
        rw [f_M_resolveExpression_3, x_gR, (m_at hm m_k3201).1, x_aI (by omega) (by rw [(m_at hm m_k3201).2]; exact he), hA h4 2708 (by decide), hL2, if_neg (by rw [x_le (by omega) (by omega)]; omega), x_gR, (m_at hm m_k3137).1, x_aI (by omega) (by rw [(m_at hm m_k3137).2]; exact he), hA h4 2644 (by decide), hL1, x_gR, (m_at hm m_k3265).1, x_add, x_aI (by omega) (by rw [(m_at hm m_k3265).2]; exact oi), hA h4 2772 (by decide), o2, x_p1]
      have k2 : y.2.1 ≤ 2 := by rcases g3 with q | q | q <;> omega
      have c2 : ((2 : Int32) ≤ Int32.ofNat y.2.1) = (2 ≤ y.2.1) := x_le (a := 2) (by decide) (by omega)
      by_cases w2 : y.2.1 = 2
      · -- a column
        have g4 : kd y.2.2 = 36 ∧ kd (y.2.2 + 2) = 36 ∧ y.2.2 + 2 < q := by
          rcases g3 with z | z | z
          · omega
          · omega
          · exact ⟨z.2.1, z.2.2.2.1, z.2.2.2.2⟩
        have isn1 : z_isn n kd y.2.2 := ⟨by omega, g4.1⟩
        have isn2 : z_isn n kd (y.2.2 + 2) := ⟨by omega, g4.2.1⟩
        have Ku := K.W h4 (by decide) (by decide) (by decide) (by decide)
        have ssu : M_ss n kd nw u C x.2.1 tc s k0 srs := M_ss.W ⟨hs1, hs2, hs3, hs4, hs5, hs6⟩ h4 (by decide)
        have wiu := hwi.W h4 (by decide)
        have tk := Ku.2.1
        have bs := b_slt NM H hm tk lim hs1 ssu.2.1 ssu.2.2.1 ssu.2.2.2.1 (fun j hj => (hs6 j hj).2.1) isn1 (wi := wi) (fun y hy => ⟨(wiu y hy).1, (wiu y hy).2.1, (wiu y hy).2.2.2.1⟩)
        generalize hsl : z_slt nw srs y.2.2 (wi.map (·.2)) = sl at bs
        obtain ⟨s14, e14⟩ : ∃ s14, s14 = g_setAI u 2964 (o + i) (z_oc sl) := ⟨_, rfl⟩
        have W14 : z_W [833, 897] [2964, 3028] u s14 := by rw [e14]; exact z_W.re.sI (by decide) _ _
        have hm14 := W14.fx hm
        have st1 : f_M_resolveExpression_3 (f + 1) (some 1) (Int32.ofNat s) (Int32.ofNat e) (z_wic wi) (Int32.ofNat i) u = (if z_oc sl = (-1) then f_M_resolveExpression_126 (f_M_resolveExpression_3 f) (some 1) (Int32.ofNat s) (Int32.ofNat e) (z_wic wi) (Int32.ofNat i) (Int32.ofNat (o + i)) (Int32.ofNat y.2.2) (some 3028) (Int32.ofNat (o + i)) (-1) s14 else if z_oc sl = 3 then f_M_resolveExpression_112 (f_M_resolveExpression_3 f) (some 1) (Int32.ofNat s) (Int32.ofNat e) (z_wic wi) (Int32.ofNat i) (Int32.ofNat (o + i)) (Int32.ofNat y.2.2) (some 3028) (Int32.ofNat (o + i)) (some 1) (some 3220) (z_wic wi) s14 else f_M_resolveExpression_112 (f_M_resolveExpression_3 f) (some 1) (Int32.ofNat s) (Int32.ofNat e) (z_wic wi) (Int32.ofNat i) (Int32.ofNat (o + i)) (Int32.ofNat y.2.2) (some 3028) (Int32.ofNat (o + i)) (some 1) (some 3220) (Int32.ofNat k0 + z_oc sl) s14) := by
          have := isn1.1
          rw [st0, if_pos (by rw [c2]; omega), x_gR, (m_at hm m_k3393).1, x_aI (by omega) (by rw [(m_at hm m_k3393).2]; exact oi), hA h4 2900 (by decide), o3, x_gR, (m_at hm m_k769).1, z_tkv hm tk H isn1.1, x_nn, bs, x_c, x_gR, (m_at hm m_k3457).1, x_sI (by omega) (by rw [(m_at hm m_k3457).2]; exact oi), ← e14, x_gR, (m_at hm14 m_k3521).1, x_gR, (m_at hm14 m_k3777).1, x_gR, (m_at hm14 m_k2497).1, x_aI (by omega) (by rw [(m_at hm14 m_k2497).2]; exact hs1), show g_AI s14 2260 s = Int32.ofNat k0 from (by rw [e14, x_AI_AI, if_neg (fun q => by have := q.1; omega)]; exact ssu.2.2.1)]
        generalize hmn : z_tmn nw x.2.1 tc srs (wi.map (·.2)) sl = mn
        have ecl : z_tcl nw x.2.1 tc cols srs (wi.map (·.2)) y.2.2 = z_cln nw x.2.1 cols mn (y.2.2 + 2) := by unfold z_tcl; rw [hsl, hmn]
        -- the column's code is written
        have st2 : f_M_resolveExpression_3 (f + 1) (some 1) (Int32.ofNat s) (Int32.ofNat e) (z_wic wi) (Int32.ofNat i) u = f_M_resolveExpression_126 (f_M_resolveExpression_3 f) (some 1) (Int32.ofNat s) (Int32.ofNat e) (z_wic wi) (Int32.ofNat i) (Int32.ofNat (o + i)) (Int32.ofNat y.2.2) (some 3028) (Int32.ofNat (o + i)) (z_cc x.2.1 mn false (z_cln nw x.2.1 cols mn (y.2.2 + 2))) s14 := by
          have K14 := Ku.W W14 (by decide) (by decide) (by decide) (by decide)
          have mlt := z_tmn_lt (N := nw) (ps := x.2.1) (tc := tc) (srs := srs) (wi := wi.map (·.2)) (sl := sl)
          rw [hmn] at mlt
          have bc := b_col NM H K14 hp mlt.1 mlt.2 isn2 false
          have := isn2.1
          have r112 : ∀ kk, kk < 100 → g_AI u 3220 kk = z_mc mn → f_M_resolveExpression_112 (f_M_resolveExpression_3 f) (some 1) (Int32.ofNat s) (Int32.ofNat e) (z_wic wi) (Int32.ofNat i) (Int32.ofNat (o + i)) (Int32.ofNat y.2.2) (some 3028) (Int32.ofNat (o + i)) (some 1) (some 3220) (Int32.ofNat kk) s14 = f_M_resolveExpression_126 (f_M_resolveExpression_3 f) (some 1) (Int32.ofNat s) (Int32.ofNat e) (z_wic wi) (Int32.ofNat i) (Int32.ofNat (o + i)) (Int32.ofNat y.2.2) (some 3028) (Int32.ofNat (o + i)) (z_cc x.2.1 mn false (z_cln nw x.2.1 cols mn (y.2.2 + 2))) s14 := fun kk h1 h2 => by
            unfold f_M_resolveExpression_112
            rw [x_aI (by omega) (by rw [(m_at hm14 m_k3777).2]; exact h1), show g_AI s14 3220 kk = z_mc mn from (by rw [e14, x_AI_AI, if_neg (fun q => by have := q.1; omega)]; exact h2), x_gR, (m_at hm14 m_k769).1, show Int32.ofNat y.2.2 + 2 = Int32.ofNat (y.2.2 + 2) from (Int32.ofNat_add _ _).symm, z_tkv hm14 K14.2.1 H isn2.1, x_nn, show (0 : Int32) = z_g false from rfl, bc, x_c]
          rw [st1]
          cases hsl2 : sl with
          | none =>
            rw [if_pos (show z_oc none = -1 from rfl)]
            have : mn = none := by rw [← hmn, hsl2]; rfl
            rw [this]; rfl
          | some k =>
            rw [hsl2] at hsl hmn
            rcases z_slt_lt hsl with hk | ⟨hk, w0, hw0⟩
            · rw [if_neg (show ¬ z_oc (some k) = -1 from z_oc_n (by omega)), if_neg (show ¬ z_oc (some k) = 3 from by show ¬ Int32.ofNat k = Int32.ofNat 3; rw [x_eq (by omega) (by omega)]; omega), show z_oc (some k) = Int32.ofNat k from rfl, x_add]
              have := ssu.2.2.2.1.1
              refine r112 (k0 + k) (by have := lim.2.2.2.2.1; omega) ?_
              rw [(ssu.2.2.2.2.2 k hk).2.2, ← hmn]
              unfold z_tmn
              simp only []
              rw [if_neg (by omega)]
            · rw [hk, if_neg (show ¬ z_oc (some 3) = -1 from z_oc_n (by omega)), if_pos (show z_oc (some 3) = 3 from rfl)]
              cases hwi2 : wi with
              | none => rw [hwi2] at hw0; cases hw0
              | some yy =>
                obtain ⟨z1, z2, z3, z4, z5⟩ := wiu yy hwi2
                rw [hwi2] at r112 hmn
                refine r112 yy.1 z1 ?_
                rw [z5, ← hmn, hk]
                rfl
        generalize hcc : z_cc x.2.1 mn false (z_cln nw x.2.1 cols mn (y.2.2 + 2)) = cc at st2
        obtain ⟨s1, es1⟩ : ∃ s1, s1 = g_setAI s14 3028 (o + i) cc := ⟨_, rfl⟩
        have W1 : z_W [833, 897] [2964, 3028] u s1 := by rw [es1]; exact W14.sI (by decide) _ _
        have hm1 := W1.fx hm
        have a1 : M_nt s1 a := by rw [es1, e14]; exact h5
        have cb := z_cc_bad (N := nw) (ps := x.2.1) (cols := cols) (m := mn) (q := y.2.2 + 2) (o := false) hw3 (fun t ht => by
          have mlt := z_tmn_lt (N := nw) (ps := x.2.1) (tc := tc) (srs := srs) (wi := wi.map (·.2)) (sl := sl)
          rw [hmn] at mlt
          exact (K.2.2.2.2.2 t (mlt.2 t ht)).2)
        rw [hcc, ← ecl] at cb
        obtain ⟨u1, n1, n2, n3⟩ := b_nt a1 (m := 2) (p := pl y.2.2) (by decide) (by decide) (hpl _ (by have := isn1.1; omega))
        have p1 : g_AI s1 1172 y.2.2 = Int32.ofNat (pl y.2.2) := by
          rw [(W1.2.2.2.2.2.2.2.2 1172 (by decide)).1]; exact (tk y.2.2 (by have := isn1.1; omega)).2.1
        -- what stands behind the step
        have step : ∃ v, f_M_resolveExpression_3 (f + 1) (some 1) (Int32.ofNat s) (Int32.ofNat e) (z_wic wi) (Int32.ofNat i) u = f_M_resolveExpression_3 f (some 1) (Int32.ofNat s) (Int32.ofNat e) (z_wic wi) (Int32.ofNat (i + 1)) v ∧ z_W [833, 897] [2964, 3028] u v ∧ g_AI v 2964 = g_AI s1 2964 ∧ g_AI v 3028 = g_AI s1 3028 ∧ M_nt v (z_nti2 (z_tbad false (z_tcl nw x.2.1 tc cols srs (wi.map (·.2)) y.2.2)) a (pl y.2.2)) := by
          have st3 : f_M_resolveExpression_3 (f + 1) (some 1) (Int32.ofNat s) (Int32.ofNat e) (z_wic wi) (Int32.ofNat i) u = (if cc = (-1) then f_M_resolveExpression_3 f (some 1) (Int32.ofNat s) (Int32.ofNat e) (z_wic wi) (Int32.ofNat (i + 1)) u1 else f_M_resolveExpression_3 f (some 1) (Int32.ofNat s) (Int32.ofNat e) (z_wic wi) (Int32.ofNat (i + 1)) s1) := by
            have := isn1.1
            rw [st2]
            unfold f_M_resolveExpression_126
            rw [x_sI (by omega) (by rw [(m_at hm14 m_k3521).2]; exact oi), ← es1, x_gR, (m_at hm1 m_k3521).1, x_aI (by omega) (by rw [(m_at hm1 m_k3521).2]; exact oi), show g_AI s1 3028 (o + i) = cc from (by rw [es1, x_AI_AI, if_pos ⟨rfl, rfl⟩]), x_gR, (m_at hm1 m_k705).1, x_aI (by omega) (by rw [(m_at hm1 m_k705).2]; omega), p1, x_nn, show (2 : Int32) = Int32.ofNat 2 from rfl, n1, x_c, x_p1]
          by_cases w : cc = -1
          · rw [if_pos w] at st3
            have tb : z_tbad false (z_tcl nw x.2.1 tc cols srs (wi.map (·.2)) y.2.2) = true := by rw [← cb]; exact w
            rw [tb]
            exact ⟨u1, st3, W1.trans (n3.mono (fun _ h => h) (fun _ h => by cases h)), (n3.2.2.2.2.2.2.2.2 2964 (by decide)).1, (n3.2.2.2.2.2.2.2.2 3028 (by decide)).1, n2⟩
          · rw [if_neg w] at st3
            have tb : z_tbad false (z_tcl nw x.2.1 tc cols srs (wi.map (·.2)) y.2.2) = false := by
              cases hh : z_tbad false (z_tcl nw x.2.1 tc cols srs (wi.map (·.2)) y.2.2) with
              | false => rfl
              | true => rw [hh] at cb; exact absurd (cb.mpr rfl) w
            rw [tb]
            exact ⟨s1, st3, W1, rfl, rfl, a1⟩
        obtain ⟨v, v1, v2, v3, v4, v5⟩ := step
        obtain ⟨u', r1, r2, r3, r4, r5⟩ := ih (i + 1) v _ f hdr (by omega) (by rw [List.length_cons] at h3; omega) (h4.trans v2) v5
        have at1 : g_AI u' 2964 (o + i) = z_oc sl ∧ g_AI u' 3028 (o + i) = cc := by
          obtain ⟨y1, y2⟩ := r3 (o + i) (fun j h6 h7 => by omega)
          rw [y1, y2, v3, v4, es1, x_AI_AI, if_neg (fun q => by have := q.1; omega), x_AI_AI, if_pos ⟨rfl, rfl⟩, e14, x_AI_AI, if_pos ⟨rfl, rfl⟩]
          exact ⟨rfl, rfl⟩
        refine ⟨u', v1.trans r1, r2, fun i' hi' => ?_, fun j h6 h7 h8 => ?_, ?_⟩
        · obtain ⟨y1, y2⟩ := r3 i' (fun j h6 h7 => hi' j (by omega) h7)
          have ne := hi' i (Nat.le_refl _) hi
          rw [y1, y2, v3, v4, es1, x_AI_AI, if_neg (fun q => by have := q.1; omega), x_AI_AI, if_neg (fun q => ne q.2), e14, x_AI_AI, if_neg (fun q => ne q.2), x_AI_AI, if_neg (fun q => by have := q.1; omega)]
          exact ⟨rfl, rfl⟩
        · by_cases w : j = i
          · rw [w, hyi]
            unfold M_rop
            rw [hsl, hmn, ecl, hcc]
            exact at1
          · exact r4 j (by omega) h7 h8
        · have e0 : z_xnt (fun t => z_tbad false (z_tcl nw x.2.1 tc cols srs (wi.map (·.2)) t)) pl a (y :: l) = z_xnt (fun t => z_tbad false (z_tcl nw x.2.1 tc cols srs (wi.map (·.2)) t)) pl (z_nti2 (z_tbad false (z_tcl nw x.2.1 tc cols srs (wi.map (·.2)) y.2.2)) a (pl y.2.2)) l := by
            unfold z_xnt
            rw [List.foldl_cons, decide_eq_true w2, Bool.true_and]
          rw [e0]
          exact r5
      · obtain ⟨u', r1, r2, r3, r4, r5⟩ := ih (i + 1) u a f hdr (by omega) (by rw [List.length_cons] at h3; omega) h4 h5
        refine ⟨u', ?_, r2, fun i' hi' => r3 i' (fun j h6 h7 => hi' j (by omega) h7), fun j h6 h7 h8 => ?_, ?_⟩
        · rw [st0, if_neg (by rw [c2]; omega)]; exact r1
        · by_cases w : j = i
          · rw [w, hyi] at h8; exact absurd h8 w2
          · exact r4 j (by omega) h7 h8
        · have e0 : z_xnt (fun t => z_tbad false (z_tcl nw x.2.1 tc cols srs (wi.map (·.2)) t)) pl a (y :: l) = z_xnt (fun t => z_tbad false (z_tcl nw x.2.1 tc cols srs (wi.map (·.2)) t)) pl a l := by
            unfold z_xnt
            rw [List.foldl_cons, decide_eq_false w2, Bool.false_and]
            rfl
          rw [e0]
          exact r5
  obtain ⟨u', r1, r2, r3, r4, r5⟩ := key L 0 u0 a0 200000 rfl (Nat.zero_le _) (by omega) z_W.re ha
  refine ⟨u', r1, r2, ⟨o, hL1, hL3, hL4, fun i hi => r3 i (fun j _ h7 => hi j h7), fun j hj h8 => r4 j (Nat.zero_le _) hj h8⟩, r5⟩
end
