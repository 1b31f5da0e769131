/-! THE PLACE, STUCK OR NOT: pieces that may be read by one who is stuck -/
abbrev z_P : Type := Nat ⊕ Nat
def z_ps (u : g_St) (pl : Nat → Nat) (n : Nat) (r : z_P) : Prop := match r with
  | .inl q => z_st u pl q ∧ q ≤ n
  | .inr p => z_at u p ∧ p ≤ n
def z_ndr (kd : Nat → Nat) (k : Nat) (r : z_P) : z_P := match r with
  | .inl q => .inl q
  | .inr p => if kd p = k then .inr (p + 1) else .inl p
def z_exr (kd : Nat → Nat) (r : z_P) : z_Ex × z_P := match r with
  | .inl q => ([], .inl q)
  | .inr p => match z_expr kd p with
    | .inl q => ([], .inl q)
    | .inr x => (x.1, .inr x.2)
section
variable {n : Nat} {kd pl : Nat → Nat} {vl : Nat → Int64}
theorem m_ndr (hk : ∀ i, kd i < 40) (hn : n ≤ 400) (hend : ∀ p, p ≤ n → kd p ≠ 38 → p < n) {u : g_St} (hm : m_Fix u) (ht : z_tkM u n kd pl vl) {r : z_P} (ha : z_ps u pl n r) {k : Nat} (hk2 : k < 38) : ∃ v u', f_M_need (some 1) (z_km k) u = some (v, u') ∧ m_Fix u' ∧ z_tkM u' n kd pl vl ∧ z_ps u' pl n (z_ndr kd k r) ∧ z_W [577, 833, 897] [] u u' ∧ ∀ p, r = .inr p → kd p = k → v = Int32.ofNat p := by
  cases r with
  | inl q =>
    have e := pM_needS ha.1.1 (z_km k)
    exact ⟨_, u, e, hm, ht, ha, z_W.re, fun p w => by cases w⟩
  | inr p =>
    obtain ⟨v, u', a1, a2, a3, a4⟩ := m_need hm ht hk hn ha.2 ha.1 (k := k) (by omega)
    have w := w_M_need _ _ hm a1
    refine ⟨v, u', a1, w.fx hm, ht.W w (by decide) (by decide) (by decide), ?_, w, fun p' e h => ?_⟩
    · unfold z_nd at a2
      unfold z_ndr
      simp only []
      by_cases q : kd p = k
      · rw [if_pos q] at a2 ⊢
        exact ⟨a2, by have := hend p ha.2 (by omega); omega⟩
      · rw [if_neg q] at a2 ⊢
        exact ⟨a2, ha.2⟩
    · cases e
      exact (a3 h).1
theorem m_ndS (hk : ∀ i, kd i < 40) (hn : n ≤ 400) (hend : ∀ p, p ≤ n → kd p ≠ 38 → p < n) {u : g_St} (hm : m_Fix u) (ht : z_tkM u n kd pl vl) {r : z_P} (ha : z_ps u pl n r) {k : Nat} (hk2 : k < 38) {c : Int32} (hc : 100 + c = z_km k) : ∃ u', f_M_needSign (some 1) c u = some ((), u') ∧ m_Fix u' ∧ z_tkM u' n kd pl vl ∧ z_ps u' pl n (z_ndr kd k r) ∧ z_W [577, 833, 897] [] u u' := by
  obtain ⟨v, u', a1, a2, a3, a4, a5, -⟩ := m_ndr hk hn hend hm ht ha hk2
  refine ⟨u', ?_, a2, a3, a4, a5⟩
  unfold f_M_needSign
  rw [x_nn, hc, a1, x_c]
/-- an expression stands at e: its operands from o on -/
def M_ex (u : g_St) (N e : Nat) (l : z_Ex) : Prop := ∃ o, g_AI u 2644 e = Int32.ofNat o ∧ g_AI u 2708 e = Int32.ofNat l.length ∧ M_ops u o l ∧ o + l.length ≤ N
/-- what reading one expression leaves -/
def M_keptX (u u' : g_St) (o e : Nat) : Prop := (∀ j, j < o → g_AI u' 2836 j = g_AI u 2836 j ∧ g_AI u' 2772 j = g_AI u 2772 j ∧ g_AI u' 2900 j = g_AI u 2900 j) ∧ ∀ j, j ≠ e → g_AI u' 2708 j = g_AI u 2708 j ∧ g_AI u' 2644 j = g_AI u 2644 j
theorem w_M_exl {u u' : g_St} {e x y : Int32} {v : Int32} (hm : m_Fix u) (h : f_M_readExpression_36 200000 (some 1) e x y u = some (v, u')) : z_W [577, 833, 897, 3073] [2708, 2772, 2836, 2900] u u' := by
  have gen : ∀ (f : Nat) (e x y : Int32) (s : g_St) {o : Int32 × g_St}, m_Fix s → f_M_readExpression_36 f (some 1) e x y s = some o → z_W [577, 833, 897, 3073] [2708, 2772, 2836, 2900] s o.2 := by
    intro f
    induction f with
    | zero =>
      intro e x y s o hm h
      rw [f_M_readExpression_36] at h
      cases h
    | succ f ih =>
      intro e x y s o hm h
      rw [f_M_readExpression_36] at h
      have hs0 : z_W [577, 833, 897, 3073] [2708, 2772, 2836, 2900] s s := z_W.re
      have k95 : ∀ (e x y : Int32) (s : g_St) {o : Int32 × g_St}, m_Fix s → f_M_readExpression_95 (f_M_readExpression_36 f) (some 1) e x y s = some o → z_W [577, 833, 897, 3073] [2708, 2772, 2836, 2900] s o.2 := by
        intro e x y s o hm h
        unfold f_M_readExpression_95 at h
        have hs0 : z_W [577, 833, 897, 3073] [2708, 2772, 2836, 2900] s s := z_W.re
        refine fr_if h (fun h => ?_) (fun h => ?_)
        · exact ih _ _ _ _ hm h
        · refine fr_c h (fun i1 s2 hc h => ?_)
          have hs1 := hs0.trans ((w_M_isSign _ _ (hs0.fx hm) (er_nn hc)).mono (by decide) (by decide))
          refine fr_if h (fun h => ?_) (fun h => ?_)
          · refine fr_gI h (fun i3 h => ?_)
            refine fr_pI h (fun h => ?_)
            have hs2 := z_W.pI hs1 (k := 577) (by decide) (i3 + 1)
            exact hs2.trans (ih _ _ _ _ (hs2.fx hm) h)
          · refine fr_gI h (fun i5 h => ?_)
            refine fr_pI h (fun h => ?_)
            have hs3 := z_W.pI hs1 (k := 577) (by decide) (i5 + 1)
            exact hs3.trans (ih _ _ _ _ (hs3.fx hm) h)
      refine fr_if h (fun h => ?_) (fun h => ?_)
      · exact fr_some h hs0
      · refine fr_c h (fun i1 s2 hc h => ?_)
        have hs1 := hs0.trans ((w_M_bad _ (hs0.fx hm) (er_nn hc)).mono (by decide) (by decide))
        refine fr_if h (fun h => ?_) (fun h => ?_)
        · refine fr_c h (fun v2 s4 hc h => ?_)
          have hs2 := hs1.trans ((w_M_readOperand _ _ (hs1.fx hm) (er_nn hc)).mono (by decide) (by decide))
          refine fr_gR (hs2.fx hm _ m_k3201).1 h (fun h => ?_)
          refine fr_aI h (fun i6 h => ?_)
          refine fr_sI h (fun j3 h => ?_)
          have hs3 := z_W.sI hs2 (a := 2708) (by decide) j3 (i6 + 1)
          refine fr_gR (hs3.fx hm _ m_k3201).1 h (fun h => ?_)
          refine fr_aI h (fun i9 h => ?_)
          refine fr_if h (fun h => ?_) (fun h => ?_)
          · exact hs3.trans (k95 _ _ _ _ (hs3.fx hm) h)
          · refine fr_c h (fun i10 s11 hc h => ?_)
            have hs4 := hs3.trans ((w_M_isSign _ _ (hs3.fx hm) (er_nn hc)).mono (by decide) (by decide))
            refine fr_if h (fun h => ?_) (fun h => ?_)
            · refine fr_c h (fun i12 s13 hc h => ?_)
              have hs5 := hs4.trans ((w_M_isSign _ _ (hs4.fx hm) (er_nn hc)).mono (by decide) (by decide))
              refine fr_if h (fun h => ?_) (fun h => ?_)
              · exact hs5.trans (k95 _ _ _ _ (hs5.fx hm) h)
              · exact hs5.trans (k95 _ _ _ _ (hs5.fx hm) h)
            · exact hs4.trans (k95 _ _ _ _ (hs4.fx hm) h)
        · exact fr_some h hs1
  exact gen _ _ _ _ _ hm h
theorem m_exr (hk : ∀ i, kd i < 40) (hn : n ≤ 400) (hend : ∀ p, p ≤ n → kd p ≠ 38 → p < n) {u : g_St} (hm : m_Fix u) (ht : z_tkM u n kd pl vl) {r : z_P} (ha : z_ps u pl n r) {e o : Nat} (he : e < 210) (ho : o + 3 < 210) (h3 : g_I u 3009 1 = Int32.ofNat e) (h4 : g_I u 3073 1 = Int32.ofNat o) :
    ∃ u', f_M_readExpression (some 1) u = some (Int32.ofNat e, u') ∧ m_Fix u' ∧ z_tkM u' n kd pl vl ∧ z_ps u' pl n (z_exr kd r).2 ∧ z_W [577, 833, 897, 3009, 3073] [2644, 2708, 2772, 2836, 2900] u u' ∧ M_keptX u u' o e ∧ g_I u' 3009 1 = Int32.ofNat (e + 1) ∧
      (∃ m, g_I u' 3073 1 = Int32.ofNat (o + m) ∧ m ≤ 4 ∧ (∀ p, r = .inr p → match (z_exr kd r).2 with | .inl q => p + 2 * m ≤ q + 2 ∧ q ≤ n ∧ 1 ≤ m | .inr q => p + 2 * m ≤ q + 1 ∧ 1 ≤ m) ∧ (∀ q, r = .inl q → m = 0) ∧ (∀ q, (z_exr kd r).2 = .inr q → M_ex u' (o + m) e (z_exr kd r).1)) := by
  have l1 : g_ln u 2644 = 210 := (hm _ m_k3137).2
  have l2 : g_ln u 2708 = 210 := (hm _ m_k3201).2
  obtain ⟨s8, hs8⟩ : ∃ s8, s8 = g_setAI (g_setAI (g_setI u 3009 1 (Int32.ofNat (e + 1))) 2644 e (Int32.ofNat o)) 2708 e 0 := ⟨_, rfl⟩
  have g8 : ∀ a j, g_AI s8 a j = if a = 2708 ∧ j = e then 0 else if a = 2644 ∧ j = e then Int32.ofNat o else g_AI u a j := fun a j => by
    rw [hs8, x_AI_AI, x_AI_AI]; rfl
  have i8 : ∀ k, k ≠ 3009 → g_I s8 k 1 = g_I u k 1 := fun k h => by
    rw [hs8]
    show g_I (g_setI u 3009 1 (Int32.ofNat (e + 1))) k 1 = _
    rw [x_I_I, if_neg (fun w => h w.1)]
  have m8 : m_Fix s8 := by rw [hs8]; exact hm
  have t8 : z_tkM s8 n kd pl vl := by rw [hs8]; exact (ht.sI (by decide) (by decide) e _).sI (by decide) (by decide) e _
  have e8 : g_I s8 3009 1 = Int32.ofNat (e + 1) := by
    rw [hs8]
    show g_I (g_setI u 3009 1 (Int32.ofNat (e + 1))) 3009 1 = _
    rw [x_I_I, if_pos ⟨rfl, rfl⟩]
  have start : f_M_readExpression (some 1) u = f_M_readExpression_36 200000 (some 1) (Int32.ofNat e) 1 1 s8 := by
    unfold f_M_readExpression
    rw [x_gI, h3, x_gI, h3, x_pI, x_p1, x_gR, show g_R (g_setI u 3009 1 (Int32.ofNat (e + 1))) 3137 1 = some 2644 from (hm _ m_k3137).1, x_gI, show g_I (g_setI u 3009 1 (Int32.ofNat (e + 1))) 3073 1 = Int32.ofNat o from (by rw [x_I_I, if_neg (fun w => by have := w.1; omega)]; exact h4), x_sI (by omega) (by show e < g_ln u 2644; omega), x_gR, show g_R (g_setAI (g_setI u 3009 1 (Int32.ofNat (e + 1))) 2644 e (Int32.ofNat o)) 3201 1 = some 2708 from (hm _ m_k3201).1, x_sI (by omega) (by show e < g_ln u 2708; omega), ← hs8]
  have wrap : ∀ u', f_M_readExpression (some 1) u = some (Int32.ofNat e, u') → z_W [577, 833, 897, 3009, 3073] [2644, 2708, 2772, 2836, 2900] u u' := fun u' h => w_M_readExpression _ hm h
  cases r with
  | inl q =>
    have hb : f_M_readExpression_36 200000 (some 1) (Int32.ofNat e) 1 1 s8 = some (Int32.ofNat e, s8) := by
      rw [f_M_readExpression_36, if_neg (by decide), x_nn, pM_badS (by rw [i8 833 (by decide)]; exact ha.1.1), x_c, if_neg (by decide)]
    rw [hb] at start
    refine ⟨s8, start, m8, t8, ⟨⟨by rw [i8 833 (by decide)]; exact ha.1.1, by rw [i8 897 (by decide)]; exact ha.1.2.1, by rw [i8 577 (by decide)]; exact ha.1.2.2⟩, ha.2⟩, wrap s8 start, ⟨fun j _ => ?_, fun j hj => ?_⟩, e8, ⟨0, by rw [i8 3073 (by decide)]; exact h4, by omega, fun p w => (by cases w), fun _ _ => rfl, fun q' w => (by cases w)⟩⟩
    · rw [g8, g8, g8, if_neg (fun w => by have := w.1; omega), if_neg (fun w => by have := w.1; omega), if_neg (fun w => by have := w.1; omega), if_neg (fun w => by have := w.1; omega), if_neg (fun w => by have := w.1; omega), if_neg (fun w => by have := w.1; omega)]
      exact ⟨rfl, rfl, rfl⟩
    · rw [g8, g8, if_neg (fun w => hj w.2), if_neg (fun w => hj w.2), if_neg (fun w => hj w.2), if_neg (fun w => hj w.2)]
      exact ⟨rfl, rfl⟩
  | inr p =>
    have a8 : z_at s8 p := ⟨by rw [i8 833 (by decide)]; exact ha.1.1, by rw [i8 577 (by decide)]; exact ha.1.2⟩
    obtain ⟨u', b1, b2, b3, b4, b5⟩ := m_exloop hk hn hend he 3 0 o p 200000 false s8 (by omega) (by omega) m8 t8 ha.2 a8 (by rw [i8 3073 (by decide)]; exact h4) (by omega) (by rw [g8, if_pos ⟨rfl, rfl⟩]; rfl)
    have ez : z_expr kd p = z_opl kd 3 false p := rfl
    have start2 : f_M_readExpression (some 1) u = some (Int32.ofNat e, u') := start.trans b1
    have w := wrap u' start2
    have kx : M_keptX u u' o e := by
      refine ⟨fun j hj => ?_, fun j hj => ?_⟩
      · obtain ⟨q1, q2, q3⟩ := b3.1 j hj
        rw [g8, if_neg (fun w => by have := w.1; omega), if_neg (fun w => by have := w.1; omega)] at q1
        rw [g8, if_neg (fun w => by have := w.1; omega), if_neg (fun w => by have := w.1; omega)] at q2
        rw [g8, if_neg (fun w => by have := w.1; omega), if_neg (fun w => by have := w.1; omega)] at q3
        exact ⟨q1, q2, q3⟩
      · have q1 := b3.2.1 j hj
        rw [g8, if_neg (fun w => hj w.2), if_neg (fun w => hj w.2)] at q1
        have q2 := b3.2.2 j
        rw [g8, if_neg (fun w => hj w.2), if_neg (fun w => hj w.2)] at q2
        exact ⟨q1, q2⟩
    have e9 : g_I u' 3009 1 = Int32.ofNat (e + 1) := by
      have := (w_M_exl m8 b1).2.2.2.2.2.2.2.1 3009 1 (fun q => by have := q.2; simp at this)
      rw [this]; exact e8
    refine ⟨u', start2, w.fx hm, ht.W w (by decide) (by decide) (by decide), ?_, w, kx, e9, ?_⟩
    · unfold z_exr
      simp only []
      rw [ez]
      cases hz : z_opl kd 3 false p with
      | inl q =>
        rw [hz] at b2
        obtain ⟨m, j1, j2, j3, j4, -⟩ := b5 q hz
        exact ⟨b2, j4⟩
      | inr x => rw [hz] at b2; exact ⟨b2, (b4 x.1 x.2 hz).2.2.2.1⟩
    · unfold z_exr
      simp only []
      rw [ez]
      cases hz : z_opl kd 3 false p with
      | inl q =>
        obtain ⟨m, j1, j2, j3, j4, j5⟩ := b5 q hz
        exact ⟨m, j1, by omega, fun p' w => (by cases w; exact ⟨j3, j4, j5⟩), fun q w => (by cases w), fun q w => (by cases w)⟩
      | inr x =>
        obtain ⟨j1, j2, j3, j4, j5, j6, j7⟩ := b4 x.1 x.2 hz
        refine ⟨x.1.length, j3, by omega, fun p' w => (by cases w; exact ⟨j5, j7⟩), fun q w => (by cases w), fun q w => ⟨o, ?_, by rw [j2, Nat.zero_add], j1, Nat.le_refl _⟩⟩
        rw [b3.2.2 e, g8, if_neg (fun w => by have := w.1; omega), if_pos ⟨rfl, rfl⟩]
theorem M_ex.kept {u u' : g_St} {N e e' : Nat} {l : z_Ex} (h : M_ex u N e l) (hk : M_keptX u u' N e') (he : e ≠ e') : M_ex u' N e l := by
  obtain ⟨o, h1, h2, h3, h4⟩ := h
  refine ⟨o, by rw [(hk.2 e he).2]; exact h1, by rw [(hk.2 e he).1]; exact h2, fun j hj => ?_, h4⟩
  obtain ⟨a, b, c⟩ := h3 j hj
  obtain ⟨q1, q2, q3⟩ := hk.1 (o + j) (by omega)
  exact ⟨by rw [q1]; exact a, by rw [q2]; exact b, by rw [q3]; exact c⟩
theorem M_ex.same {u u' : g_St} {N e : Nat} {l : z_Ex} (h : M_ex u N e l) (hk : ∀ a, a = 2644 ∨ a = 2708 ∨ a = 2772 ∨ a = 2836 ∨ a = 2900 → g_AI u' a = g_AI u a) : M_ex u' N e l := by
  obtain ⟨o, h1, h2, h3, h4⟩ := h
  refine ⟨o, by rw [hk 2644 (by omega)]; exact h1, by rw [hk 2708 (by omega)]; exact h2, fun j hj => ?_, h4⟩
  obtain ⟨a, b, c⟩ := h3 j hj
  exact ⟨by rw [hk 2836 (by omega)]; exact a, by rw [hk 2772 (by omega)]; exact b, by rw [hk 2900 (by omega)]; exact c⟩
theorem M_ex.more {u : g_St} {N N' e : Nat} {l : z_Ex} (h : M_ex u N e l) (hN : N ≤ N') : M_ex u N' e l := by
  obtain ⟨o, h1, h2, h3, h4⟩ := h
  exact ⟨o, h1, h2, h3, by omega⟩
/-- a source stands at k: its name's token, behind it its byname's -/
def M_so (u : g_St) (k t : Nat) : Prop := g_AI u 3092 k = Int32.ofNat t ∧ g_AI u 3156 k = Int32.ofNat (t + 1)
def z_sor (kd : Nat → Nat) (r : z_P) : z_P := z_ndr kd 36 (z_ndr kd 36 r)
theorem z_sor_ok {r : z_P} {q : Nat} (h : z_sor kd r = .inr q) : ∃ p, r = .inr p ∧ kd p = 36 ∧ kd (p + 1) = 36 ∧ q = p + 2 := by
  unfold z_sor z_ndr at h
  cases r with
  | inl x => cases h
  | inr p =>
    simp only [] at h
    by_cases w : kd p = 36
    · rw [if_pos w] at h
      simp only [] at h
      by_cases w2 : kd (p + 1) = 36
      · rw [if_pos w2] at h
        cases h
        exact ⟨p, rfl, w, w2, rfl⟩
      · rw [if_neg w2] at h; cases h
    · rw [if_neg w] at h; cases h
theorem m_source (hk : ∀ i, kd i < 40) (hn : n ≤ 400) (hend : ∀ p, p ≤ n → kd p ≠ 38 → p < n) {u : g_St} (hm : m_Fix u) (ht : z_tkM u n kd pl vl) {r : z_P} (ha : z_ps u pl n r) {k : Nat} (hk1 : k < 100) (h3 : g_I u 3585 1 = Int32.ofNat k) :
    ∃ u', f_M_readSource (some 1) u = some ((), u') ∧ m_Fix u' ∧ z_tkM u' n kd pl vl ∧ z_ps u' pl n (z_sor kd r) ∧ z_W [577, 833, 897, 3585] [3092, 3156] u u' ∧ g_I u' 3585 1 = Int32.ofNat (k + 1) ∧ (∀ j, j ≠ k → g_AI u' 3092 j = g_AI u 3092 j ∧ g_AI u' 3156 j = g_AI u 3156 j) ∧ ∀ p, r = .inr p → (∃ q, z_sor kd r = .inr q) → M_so u' k p := by
  obtain ⟨v1, s4, a1, a2, a3, a4, a5, a6⟩ := m_ndr hk hn hend hm ht ha (k := 36) (by decide)
  have i4 : g_I s4 3585 1 = Int32.ofNat k := by rw [a5.2.2.2.2.2.2.2.1 3585 1 (fun q => by have := q.2; simp at this)]; exact h3
  have l1 : g_ln s4 3092 = 100 := (a2 _ m_k3649).2
  have t5 : z_tkM (g_setAI s4 3092 k v1) n kd pl vl := a3.sI (by decide) (by decide) k v1
  have p5 : z_ps (g_setAI s4 3092 k v1) pl n (z_ndr kd 36 r) := by
    cases hz : z_ndr kd 36 r with
    | inl q => rw [hz] at a4; exact a4
    | inr q => rw [hz] at a4; exact a4
  obtain ⟨v2, s9, b1, b2, b3, b4, b5, b6⟩ := m_ndr hk hn hend (u := g_setAI s4 3092 k v1) a2 t5 p5 (k := 36) (by decide)
  have i9 : g_I s9 3585 1 = Int32.ofNat k := by rw [b5.2.2.2.2.2.2.2.1 3585 1 (fun q => by have := q.2; simp at this)]; exact i4
  have l9 : g_ln s9 3156 = 100 := (b2 _ m_k3713).2
  have g12 : ∀ a j, g_AI (g_setI (g_setAI s9 3156 k v2) 3585 1 (Int32.ofNat (k + 1))) a j = if a = 3156 ∧ j = k then v2 else if a = 3092 ∧ j = k then v1 else g_AI u a j := fun a j => by
    show g_AI (g_setAI s9 3156 k v2) a j = _
    rw [x_AI_AI, (b5.2.2.2.2.2.2.2.2 a (by simp)).1, x_AI_AI, (a5.2.2.2.2.2.2.2.2 a (by simp)).1]
  have run : f_M_readSource (some 1) u = some ((), g_setI (g_setAI s9 3156 k v2) 3585 1 (Int32.ofNat (k + 1))) := by
    unfold f_M_readSource
    rw [x_gR, (hm _ m_k3649).1, x_gI, h3, x_nn, show (30 : Int32) = z_km 36 from rfl, a1, x_c, x_sI (by omega) (by rw [l1]; exact hk1), x_gR, show g_R (g_setAI s4 3092 k v1) 3713 1 = some 3156 from (a2 _ m_k3713).1, x_gI, show g_I (g_setAI s4 3092 k v1) 3585 1 = Int32.ofNat k from i4, x_nn, b1, x_c, x_sI (by omega) (by rw [l9]; exact hk1), x_gI, show g_I (g_setAI s9 3156 k v2) 3585 1 = Int32.ofNat k from i9, x_pI, x_p1]
  have w := w_M_readSource _ hm run
  refine ⟨_, run, w.fx hm, ht.W w (by decide) (by decide) (by decide), ?_, w, by rw [x_I_I, if_pos ⟨rfl, rfl⟩], fun j hj => ?_, fun p hr hq => ?_⟩
  · show z_ps _ pl n (z_ndr kd 36 (z_ndr kd 36 r))
    have i12 : ∀ x, x ≠ 3585 → g_I (g_setI (g_setAI s9 3156 k v2) 3585 1 (Int32.ofNat (k + 1))) x 1 = g_I s9 x 1 := fun x hx => by
      rw [x_I_I, if_neg (fun q => hx q.1)]; rfl
    cases hz : z_ndr kd 36 (z_ndr kd 36 r) with
    | inl q => rw [hz] at b4; exact ⟨⟨by rw [i12 833 (by decide)]; exact b4.1.1, by rw [i12 897 (by decide)]; exact b4.1.2.1, by rw [i12 577 (by decide)]; exact b4.1.2.2⟩, b4.2⟩
    | inr q => rw [hz] at b4; exact ⟨⟨by rw [i12 833 (by decide)]; exact b4.1.1, by rw [i12 577 (by decide)]; exact b4.1.2⟩, b4.2⟩
  · rw [g12, g12, if_neg (fun q => hj q.2), if_neg (fun q => hj q.2), if_neg (fun q => hj q.2), if_neg (fun q => hj q.2)]
    exact ⟨rfl, rfl⟩
  · obtain ⟨q, hq⟩ := hq
    obtain ⟨p', e1, w1, w2, -⟩ := z_sor_ok hq
    have ep : p = p' := by rw [hr] at e1; cases e1; rfl
    subst ep
    have e2 : z_ndr kd 36 r = .inr (p + 1) := by rw [hr]; show (if kd p = 36 then _ else _) = _; rw [if_pos w1]
    refine ⟨?_, ?_⟩
    · rw [g12, if_neg (fun q => by have := q.1; omega), if_pos ⟨rfl, rfl⟩]
      exact a6 p hr w1
    · rw [g12, if_pos ⟨rfl, rfl⟩]
      exact b6 (p + 1) e2 w2
/-- skip: whether it stands there, and the place behind it -/
def z_skr (kd : Nat → Nat) (k : Nat) (r : z_P) : Bool × z_P := match r with
  | .inl q => (false, .inl q)
  | .inr p => if kd p = k then (true, .inr (p + 1)) else (false, .inr p)
theorem m_skr (hk : ∀ i, kd i < 40) (hn : n ≤ 400) (hend : ∀ p, p ≤ n → kd p ≠ 38 → p < n) {u : g_St} (hm : m_Fix u) (ht : z_tkM u n kd pl vl) {r : z_P} (ha : z_ps u pl n r) {k : Nat} (hk2 : k < 38) : ∃ u', f_M_skip (some 1) (z_km k) u = some (z_g (z_skr kd k r).1, u') ∧ m_Fix u' ∧ z_tkM u' n kd pl vl ∧ z_ps u' pl n (z_skr kd k r).2 ∧ z_W [577] [] u u' := by
  cases r with
  | inl q =>
    have e := pM_skipS ha.1.1 (z_km k)
    exact ⟨u, e, hm, ht, ha, z_W.re⟩
  | inr p =>
    have e := pM_skip hm ht hk hn ha.2 ha.1.1 ha.1.2 (k := k) (by omega)
    unfold z_skr
    simp only []
    by_cases w : kd p = k
    · rw [if_pos w] at e ⊢
      have wf := w_M_skip _ _ hm e
      refine ⟨_, e, hm, ht, ⟨⟨?_, ?_⟩, by have := hend p ha.2 (by omega); omega⟩, wf⟩
      · rw [x_I_I, if_neg (fun q => by have := q.1; omega)]; exact ha.1.1
      · rw [x_I_I, if_pos ⟨rfl, rfl⟩]
    · rw [if_neg w] at e ⊢
      exact ⟨u, e, hm, ht, ha, z_W.re⟩
end
