/-! THE REFERENCE READS THE CONDITIONS INSIDE A NOT EXISTS -/
/-- comparisons with AND between, at most d more behind the first -/
def z_cil (kd : Nat → Nat) : Nat → Nat → List z_Bs × z_P
  | 0, p => ([(z_cor kd (.inr p)).1], (z_cor kd (.inr p)).2)
  | d + 1, p => match (z_cor kd (.inr p)).2 with
    | .inl q => ([(z_cor kd (.inr p)).1], .inl q)
    | .inr q => if kd q = 6 then ((z_cor kd (.inr p)).1 :: (z_cil kd d (q + 1)).1, (z_cil kd d (q + 1)).2) else ([(z_cor kd (.inr p)).1], .inr q)
/-- so much has been counted by place p, where a condition begins: operands, expressions, conditions -/
def z_bud (p o e c : Nat) : Prop := 2 * o ≤ p ∧ e ≤ o ∧ 4 * c ≤ p
/-- and behind it, stuck or not -/
def z_bud2 (r : z_P) (o e c : Nat) : Prop := match r with
  | .inl _ => o ≤ 205 ∧ e ≤ 205 ∧ c ≤ 110
  | .inr q => 2 * o ≤ q + 1 ∧ e ≤ o ∧ 4 * c ≤ q + 1
section
variable {n : Nat} {kd pl : Nat → Nat} {vl : Nat → Int64}
def M_cbs (u : g_St) (N E c : Nat) (l : List z_Bs) : Prop := ∀ j, j < l.length → M_cb u N E (c + j) (l.getD j ([], 0, []))
/-- operands before N and expressions before E are as they were -/
def M_lo (u u' : g_St) (N E : Nat) : Prop := (∀ j, j < N → g_AI u' 2836 j = g_AI u 2836 j ∧ g_AI u' 2772 j = g_AI u 2772 j ∧ g_AI u' 2900 j = g_AI u 2900 j) ∧ ∀ j, j < E → g_AI u' 2708 j = g_AI u 2708 j ∧ g_AI u' 2644 j = g_AI u 2644 j
theorem M_ex.lo {u u' : g_St} {N E e : Nat} {l : z_Ex} (h : M_ex u N e l) (he : e < E) (hk : M_lo u u' N E) : M_ex u' N e l := by
  obtain ⟨o, h1, h2, h3, h4⟩ := h
  obtain ⟨q1, q2⟩ := hk.2 e he
  refine ⟨o, by rw [q2]; exact h1, by rw [q1]; exact h2, fun j hj => ?_, h4⟩
  obtain ⟨a, b, c⟩ := h3 j hj
  obtain ⟨r1, r2, r3⟩ := hk.1 (o + j) (by omega)
  exact ⟨by rw [r1]; exact a, by rw [r2]; exact b, by rw [r3]; exact c⟩
theorem M_cb.lo {u u' : g_St} {N N' E E' c : Nat} {b : z_Bs} (h : M_cb u N E c b) (hk : M_lo u u' N E) (hc : g_AI u' 3284 c = g_AI u 3284 c ∧ g_AI u' 3348 c = g_AI u 3348 c ∧ g_AI u' 3412 c = g_AI u 3412 c ∧ g_AI u' 3476 c = g_AI u 3476 c) (hN : N ≤ N') (hE : E ≤ E') : M_cb u' N' E' c b := by
  obtain ⟨q1, q2, q3, q4⟩ := hc
  obtain ⟨⟨e1, a0, a1, a2⟩, h2⟩ := h
  refine ⟨⟨e1, by omega, by rw [q3]; exact a1, (a2.lo a0 hk).more hN⟩, ?_⟩
  rcases h2 with ⟨b1, b2⟩ | ⟨b1, b2, b3, e2, b6, b4, b5⟩
  · exact Or.inl ⟨b1, by rw [q1]; exact b2⟩
  · exact Or.inr ⟨b1, by rw [q1]; exact b2, by rw [q2]; exact b3, e2, by omega, by rw [q4]; exact b4, (b5.lo b6 hk).more hN⟩
theorem m_end201 (hk : ∀ i, kd i < 40) (hn : n ≤ 400) (hend : ∀ p, p ≤ n → kd p ≠ 38 → p < n) {u : g_St} (hm : m_Fix u) (ht : z_tkM u n kd pl vl) {r : z_P} (ha : z_ps u pl n r) (x : Int32) : ∃ u', f_M_readNotExists_201 (some 1) x u = some (x, u') ∧ m_Fix u' ∧ z_tkM u' n kd pl vl ∧ z_ps u' pl n (z_ndr kd 27 r) ∧ z_W [577, 833, 897] [] u u' := by
  obtain ⟨u', a1, a2, a3, a4, a5⟩ := m_ndS hk hn hend hm ht ha (k := 27) (by decide) (c := 41) rfl
  refine ⟨u', ?_, a2, a3, a4, a5⟩
  unfold f_M_readNotExists_201
  rw [x_nn, a1, x_c]
/-- one turn of the loop: a comparison, and whether an AND goes on -/
theorem m_cil1 (hk : ∀ i, kd i < 40) (hn : n ≤ 400) (hend : ∀ p, p ≤ n → kd p ≠ 38 → p < n) {u : g_St} (hm : m_Fix u) (ht : z_tkM u n kd pl vl) {p : Nat} (ha : z_ps u pl n (.inr p)) {e o cc c i : Nat} (hB : z_bud p o e cc) (hc : c < 120) (hi : i < 3) (h3 : g_I u 3009 1 = Int32.ofNat e) (h4 : g_I u 3073 1 = Int32.ofNat o) (h5 : g_I u 3841 1 = Int32.ofNat cc) (h6 : g_AI u 3604 c = Int32.ofNat i) (f : Nat) :
    ∃ s11 e' o', m_Fix s11 ∧ z_tkM s11 n kd pl vl ∧ z_ps s11 pl n (z_cor kd (.inr p)).2 ∧ M_keptC u s11 o e cc ∧ g_I s11 3841 1 = Int32.ofNat (cc + 1) ∧ g_I s11 3009 1 = Int32.ofNat e' ∧ g_I s11 3073 1 = Int32.ofNat o' ∧ o ≤ o' ∧ e ≤ e' ∧ z_bud2 (z_cor kd (.inr p)).2 o' e' (cc + 1) ∧ g_AI s11 3604 c = Int32.ofNat (i + 1) ∧ (∀ j, j ≠ c → g_AI s11 3604 j = g_AI u 3604 j) ∧ g_AI s11 3668 (3 * c + i) = Int32.ofNat cc ∧ (∀ j, j ≠ 3 * c + i → g_AI s11 3668 j = g_AI u 3668 j) ∧ (∀ q, (z_cor kd (.inr p)).2 = .inr q → M_cb s11 o' e' cc (z_cor kd (.inr p)).1 ∧ p + 3 ≤ q) ∧
      f_M_readNotExists_133 (f + 1) (some 1) (Int32.ofNat c) 1 u = if 3 ≤ i + 1 then f_M_readNotExists_133 f (some 1) (Int32.ofNat c) 0 s11 else g_c (f_M_skip (some 1) 7 s11) fun i14 s15 => if i14 = 0 then f_M_readNotExists_133 f (some 1) (Int32.ofNat c) 0 s15 else f_M_readNotExists_133 f (some 1) (Int32.ofNat c) 1 s15 := by
  obtain ⟨hb1, hb2, hb3⟩ := hB
  have hpn : p ≤ n := ha.2
  obtain ⟨s7, a1, a2, a3, a4, a5, a6, e', m, b1, b2, b3, b4, b5, b6, b7⟩ := m_cor hk hn hend hm ht ha (e := e) (o := o) (c := cc) (by omega) (by omega) (by omega) h3 h4 h5
  have w7 := w_M_readCondition _ hm a1
  have l7 : g_ln s7 3668 = 360 := (a2 _ m_k4289).2
  have l8 : g_ln s7 3604 = 120 := (a2 _ m_k4225).2
  have c7 : g_AI s7 3604 = g_AI u 3604 := (w7.2.2.2.2.2.2.2.2 3604 (by decide)).1
  have d7 : g_AI s7 3668 = g_AI u 3668 := (w7.2.2.2.2.2.2.2.2 3668 (by decide)).1
  have ea : 3 * Int32.ofNat c + Int32.ofNat i = Int32.ofNat (3 * c + i) := by rw [Int32.ofNat_add, Int32.ofNat_mul]; rfl
  obtain ⟨s11, hs11⟩ : ∃ s11, s11 = g_setAI (g_setAI s7 3668 (3 * c + i) (Int32.ofNat cc)) 3604 c (Int32.ofNat (i + 1)) := ⟨_, rfl⟩
  have g11 : ∀ a j, g_AI s11 a j = if a = 3604 ∧ j = c then Int32.ofNat (i + 1) else if a = 3668 ∧ j = 3 * c + i then Int32.ofNat cc else g_AI s7 a j := fun a j => by rw [hs11, x_AI_AI, x_AI_AI]
  have g11' : ∀ a, a ≠ 3604 → a ≠ 3668 → g_AI s11 a = g_AI s7 a := fun a q1 q2 => funext fun j => by rw [g11, if_neg (fun w => q1 w.1), if_neg (fun w => q2 w.1)]
  have i11 : ∀ x, g_I s11 x 1 = g_I s7 x 1 := fun x => by rw [hs11]; rfl
  have m11 : m_Fix s11 := by rw [hs11]; exact a2
  have t11 : z_tkM s11 n kd pl vl := by rw [hs11]; exact (a3.sI (by decide) (by decide) _ _).sI (by decide) (by decide) c _
  have pr := b6.2 p rfl
  refine ⟨s11, e', o + m, m11, t11, a4.of (i11 833) (i11 897) (i11 577), ⟨fun j hj => ?_, fun j hj => ?_, fun j hj => ?_⟩, by rw [i11]; exact a6, by rw [i11]; exact b1, by rw [i11]; exact b4, by omega, by omega, ?_, by rw [g11, if_pos ⟨rfl, rfl⟩], fun j hj => ?_, ?_, fun j hj => ?_, fun q w => ⟨?_, ?_⟩, ?_⟩
  · rw [g11' 2836 (by decide) (by decide), g11' 2772 (by decide) (by decide), g11' 2900 (by decide) (by decide)]; exact a5.1 j hj
  · rw [g11' 2708 (by decide) (by decide), g11' 2644 (by decide) (by decide)]; exact a5.2.1 j hj
  · rw [g11' 3284 (by decide) (by decide), g11' 3348 (by decide) (by decide), g11' 3412 (by decide) (by decide), g11' 3476 (by decide) (by decide)]; exact a5.2.2 j hj
  · cases hz : (z_cor kd (.inr p)).2 with
    | inl q =>
      rw [hz] at pr a4
      have q7 : p ≤ q ∧ p + 2 * m ≤ q + 2 := pr
      have q8 : q ≤ n := a4.2
      exact ⟨by omega, by omega, by omega⟩
    | inr q =>
      rw [hz] at pr
      have q7 : p + 2 * m ≤ q + 1 ∧ p + 3 ≤ q ∧ e' - e ≤ m := pr
      exact ⟨by omega, by omega, by omega⟩
  · rw [g11, if_neg (fun w => hj w.2), if_neg (fun w => by have := w.1; omega), c7]
  · rw [g11, if_neg (fun w => by have := w.1; omega), if_pos ⟨rfl, rfl⟩]
  · rw [g11, if_neg (fun w => by have := w.1; omega), if_neg (fun w => hj w.2), d7]
  · have h := b7 q w
    obtain ⟨⟨e1, x0, x1, x2⟩, y⟩ := h
    have sm : ∀ x l, M_ex s7 (o + m) x l → M_ex s11 (o + m) x l := fun x l h => h.same (fun a w => g11' a (by omega) (by omega))
    refine ⟨⟨e1, x0, by rw [g11' 3412 (by decide) (by decide)]; exact x1, sm _ _ x2⟩, ?_⟩
    rcases y with ⟨y1, y2⟩ | ⟨y1, y2, y3, e2, y6, y4, y5⟩
    · exact Or.inl ⟨y1, by rw [g11' 3284 (by decide) (by decide)]; exact y2⟩
    · exact Or.inr ⟨y1, by rw [g11' 3284 (by decide) (by decide)]; exact y2, by rw [g11' 3348 (by decide) (by decide)]; exact y3, e2, y6, by rw [g11' 3476 (by decide) (by decide)]; exact y4, sm _ _ y5⟩
  · rw [w] at pr
    have q7 : p + 2 * m ≤ q + 1 ∧ p + 3 ≤ q ∧ e' - e ≤ m := pr
    exact q7.2.1
  · have e3 : (3 ≤ Int32.ofNat (i + 1)) = (3 ≤ i + 1) := x_le (a := 3) (by decide) (by omega)
    rw [f_M_readNotExists_133, if_neg (by decide), x_nn, pM_bad ha.1.1, x_c, if_pos rfl, x_gR, (hm _ m_k4289).1, x_gR, (hm _ m_k4225).1, x_aI (by omega) (by rw [(hm _ m_k4225).2]; exact hc), h6, x_nn, a1, x_c, ea, x_sI (by omega) (by rw [l7]; omega), x_gR, show g_R (g_setAI s7 3668 (3 * c + i) (Int32.ofNat cc)) 4225 1 = some 3604 from (a2 _ m_k4225).1, x_aI (by omega) (by show c < g_ln s7 3604; omega), show g_AI (g_setAI s7 3668 (3 * c + i) (Int32.ofNat cc)) 3604 c = Int32.ofNat i from (by rw [x_AI_AI, if_neg (fun w => by have := w.1; omega), c7]; exact h6), x_p1, x_sI (by omega) (by show c < g_ln s7 3604; omega), ← hs11, x_gR, (m11 _ m_k4225).1, x_aI (by omega) (by rw [(m11 _ m_k4225).2]; exact hc), show g_AI s11 3604 c = Int32.ofNat (i + 1) from (by rw [g11, if_pos ⟨rfl, rfl⟩])]
    by_cases q : 3 ≤ i + 1
    · rw [if_pos (by rw [e3]; exact q), if_pos q]
    · rw [if_neg (by rw [e3]; exact q), if_neg q]
      rfl
/-- what the loop leaves -/
def M_keptL (u u' : g_St) (o e cc c i : Nat) : Prop := (∀ j, j < o → g_AI u' 2836 j = g_AI u 2836 j ∧ g_AI u' 2772 j = g_AI u 2772 j ∧ g_AI u' 2900 j = g_AI u 2900 j) ∧ (∀ j, j < e → g_AI u' 2708 j = g_AI u 2708 j ∧ g_AI u' 2644 j = g_AI u 2644 j) ∧ (∀ j, j < cc → g_AI u' 3284 j = g_AI u 3284 j ∧ g_AI u' 3348 j = g_AI u 3348 j ∧ g_AI u' 3412 j = g_AI u 3412 j ∧ g_AI u' 3476 j = g_AI u 3476 j) ∧ (∀ j, j ≠ c → g_AI u' 3604 j = g_AI u 3604 j) ∧ ∀ j, j < 3 * c + i → g_AI u' 3668 j = g_AI u 3668 j
theorem m_cil (hk : ∀ i, kd i < 40) (hn : n ≤ 400) (hend : ∀ p, p ≤ n → kd p ≠ 38 → p < n) {c : Nat} (hc : c < 120) : ∀ (d i p e o cc f : Nat) (u : g_St), i + d = 2 → d + 1 < f → m_Fix u → z_tkM u n kd pl vl → z_ps u pl n (.inr p) → z_bud p o e cc → g_I u 3009 1 = Int32.ofNat e → g_I u 3073 1 = Int32.ofNat o → g_I u 3841 1 = Int32.ofNat cc → g_AI u 3604 c = Int32.ofNat i →
    ∃ u' e' o', f_M_readNotExists_133 f (some 1) (Int32.ofNat c) 1 u = some (Int32.ofNat c, u') ∧ m_Fix u' ∧ z_tkM u' n kd pl vl ∧ z_ps u' pl n (z_ndr kd 27 (z_cil kd d p).2) ∧ M_keptL u u' o e cc c i ∧ g_I u' 3009 1 = Int32.ofNat e' ∧ g_I u' 3073 1 = Int32.ofNat o' ∧ g_I u' 3841 1 = Int32.ofNat (cc + (z_cil kd d p).1.length) ∧ o ≤ o' ∧ e ≤ e' ∧ z_bud2 (z_cil kd d p).2 o' e' (cc + (z_cil kd d p).1.length) ∧ g_AI u' 3604 c = Int32.ofNat (i + (z_cil kd d p).1.length) ∧ (z_cil kd d p).1.length ≤ d + 1 ∧
      (∀ q, (z_cil kd d p).2 = .inr q → M_cbs u' o' e' cc (z_cil kd d p).1 ∧ (∀ j, j < (z_cil kd d p).1.length → g_AI u' 3668 (3 * c + i + j) = Int32.ofNat (cc + j)) ∧ p + 3 ≤ q) := by
  have fin : ∀ (f : Nat) (s : g_St) (r : z_P), m_Fix s → z_tkM s n kd pl vl → z_ps s pl n r → ∃ u', f_M_readNotExists_133 (f + 1) (some 1) (Int32.ofNat c) 0 s = some (Int32.ofNat c, u') ∧ m_Fix u' ∧ z_tkM u' n kd pl vl ∧ z_ps u' pl n (z_ndr kd 27 r) ∧ (∀ a, g_AI u' a = g_AI s a) ∧ ∀ x, x ≠ 577 → x ≠ 833 → x ≠ 897 → g_I u' x 1 = g_I s x 1 := by
    intro f s r q1 q2 q3
    obtain ⟨u', a1, a2, a3, a4, a5⟩ := m_end201 hk hn hend q1 q2 q3 (Int32.ofNat c)
    refine ⟨u', ?_, a2, a3, a4, fun a => (a5.2.2.2.2.2.2.2.2 a (by simp)).1, fun x y1 y2 y3 => a5.2.2.2.2.2.2.2.1 x 1 (fun q => by have := q.2; simp at this; omega)⟩
    rw [f_M_readNotExists_133, if_pos rfl]
    exact a1
  -- it ends behind this comparison
  have stop : ∀ (d i p e o cc : Nat) (u s11 s : g_St) (e' o' f : Nat) (res : Option (Int32 × g_St)), i < 3 → m_Fix s → z_tkM s n kd pl vl → z_ps s pl n (z_cor kd (.inr p)).2 → (∀ a, g_AI s a = g_AI s11 a) → (∀ x, x ≠ 577 → x ≠ 833 → x ≠ 897 → g_I s x 1 = g_I s11 x 1) → M_keptC u s11 o e cc → g_I s11 3841 1 = Int32.ofNat (cc + 1) → g_I s11 3009 1 = Int32.ofNat e' → g_I s11 3073 1 = Int32.ofNat o' → o ≤ o' → e ≤ e' → z_bud2 (z_cor kd (.inr p)).2 o' e' (cc + 1) → g_AI s11 3604 c = Int32.ofNat (i + 1) → (∀ j, j ≠ c → g_AI s11 3604 j = g_AI u 3604 j) → g_AI s11 3668 (3 * c + i) = Int32.ofNat cc → (∀ j, j ≠ 3 * c + i → g_AI s11 3668 j = g_AI u 3668 j) → (∀ q, (z_cor kd (.inr p)).2 = .inr q → M_cb s11 o' e' cc (z_cor kd (.inr p)).1 ∧ p + 3 ≤ q) → z_cil kd d p = ([(z_cor kd (.inr p)).1], (z_cor kd (.inr p)).2) → res = f_M_readNotExists_133 (f + 1) (some 1) (Int32.ofNat c) 0 s →
      ∃ u' e' o', res = some (Int32.ofNat c, u') ∧ m_Fix u' ∧ z_tkM u' n kd pl vl ∧ z_ps u' pl n (z_ndr kd 27 (z_cil kd d p).2) ∧ M_keptL u u' o e cc c i ∧ g_I u' 3009 1 = Int32.ofNat e' ∧ g_I u' 3073 1 = Int32.ofNat o' ∧ g_I u' 3841 1 = Int32.ofNat (cc + (z_cil kd d p).1.length) ∧ o ≤ o' ∧ e ≤ e' ∧ z_bud2 (z_cil kd d p).2 o' e' (cc + (z_cil kd d p).1.length) ∧ g_AI u' 3604 c = Int32.ofNat (i + (z_cil kd d p).1.length) ∧ (z_cil kd d p).1.length ≤ d + 1 ∧
        (∀ q, (z_cil kd d p).2 = .inr q → M_cbs u' o' e' cc (z_cil kd d p).1 ∧ (∀ j, j < (z_cil kd d p).1.length → g_AI u' 3668 (3 * c + i + j) = Int32.ofNat (cc + j)) ∧ p + 3 ≤ q) := by
    intro d i p e o cc u s11 s e' o' f res hi q1 q2 q3 ga gi k1 k2 k3 k4 k5 k6 k7 k8 k9 l1 l2 l3 hz hres
    obtain ⟨u', a1, a2, a3, a4, a5, a6⟩ := fin f s _ q1 q2 q3
    have g' : ∀ a, g_AI u' a = g_AI s11 a := fun a => (a5 a).trans (ga a)
    have i' : ∀ x, x ≠ 577 → x ≠ 833 → x ≠ 897 → g_I u' x 1 = g_I s11 x 1 := fun x y1 y2 y3 => (a6 x y1 y2 y3).trans (gi x y1 y2 y3)
    rw [hz]
    refine ⟨u', e', o', hres.trans a1, a2, a3, a4, ⟨fun j hj => ?_, fun j hj => ?_, fun j hj => ?_, fun j hj => ?_, fun j hj => ?_⟩, by rw [i' 3009 (by decide) (by decide) (by decide)]; exact k3, by rw [i' 3073 (by decide) (by decide) (by decide)]; exact k4, by rw [i' 3841 (by decide) (by decide) (by decide)]; exact k2, k5, k6, k7, by rw [g']; exact k8, by show 1 ≤ d + 1; omega, fun q w => ⟨fun j hj => ?_, fun j hj => ?_, (l3 q w).2⟩⟩
    · rw [g', g', g']; exact k1.1 j hj
    · rw [g', g']; exact k1.2.1 j hj
    · rw [g', g', g', g']; exact k1.2.2 j (by omega)
    · rw [g']; exact k9 j hj
    · rw [g']; exact l2 j (by omega)
    · have ej : j = 0 := by have : j < 1 := hj; omega
      subst ej
      exact (l3 q w).1.lo ⟨fun j _ => by rw [g', g', g']; exact ⟨rfl, rfl, rfl⟩, fun j _ => by rw [g', g']; exact ⟨rfl, rfl⟩⟩ (by show g_AI u' 3284 (cc + 0) = g_AI s11 3284 cc ∧ _; rw [g', g', g', g']; exact ⟨rfl, rfl, rfl, rfl⟩) (Nat.le_refl _) (Nat.le_refl _)
    · have ej : j = 0 := by have : j < 1 := hj; omega
      subst ej
      rw [g']
      exact l1
  intro d
  induction d with
  | zero =>
    intro i p e o cc f u hi hf hm ht ha hB h3 h4 h5 h6
    obtain ⟨f, rfl⟩ : ∃ m, f = m + 2 := ⟨f - 2, by omega⟩
    obtain ⟨s11, e', o', t1, t2, t3, k1, k2, k3, k4, k5, k6, k7, k8, k9, l1, l2, l3, t4⟩ := m_cil1 hk hn hend hm ht ha hB hc (show i < 3 by omega) h3 h4 h5 h6 (f + 1)
    rw [if_pos (by omega)] at t4
    exact stop 0 i p e o cc u s11 s11 e' o' f _ (by omega) t1 t2 t3 (fun _ => rfl) (fun _ _ _ _ => rfl) k1 k2 k3 k4 k5 k6 k7 k8 k9 l1 l2 l3 rfl t4
  | succ d ih =>
    intro i p e o cc f u hi hf hm ht ha hB h3 h4 h5 h6
    obtain ⟨f, rfl⟩ : ∃ m, f = m + 2 := ⟨f - 2, by omega⟩
    obtain ⟨s11, e', o', t1, t2, t3, k1, k2, k3, k4, k5, k6, k7, k8, k9, l1, l2, l3, t4⟩ := m_cil1 hk hn hend hm ht ha hB hc (show i < 3 by omega) h3 h4 h5 h6 (f + 1)
    rw [if_neg (by omega), show (7 : Int32) = z_km 6 from rfl] at t4
    obtain ⟨s15, x1, x2, x3, x4, x5⟩ := m_skr hk hn hend t1 t2 t3 (k := 6) (by decide)
    have ga : ∀ a, g_AI s15 a = g_AI s11 a := fun a => (x5.2.2.2.2.2.2.2.2 a (by simp)).1
    have gi : ∀ x, x ≠ 577 → g_I s15 x 1 = g_I s11 x 1 := fun x y1 => x5.2.2.2.2.2.2.2.1 x 1 (fun q => by have := q.2; simp at this; exact y1 this)
    rw [x1, x_c] at t4
    have halt : (z_skr kd 6 (z_cor kd (.inr p)).2).1 = false → (z_skr kd 6 (z_cor kd (.inr p)).2).2 = (z_cor kd (.inr p)).2 → z_cil kd (d + 1) p = ([(z_cor kd (.inr p)).1], (z_cor kd (.inr p)).2) → _ := fun y1 y2 y3 => by
      rw [y1, if_pos (by decide)] at t4
      rw [y2] at x4
      exact stop (d + 1) i p e o cc u s11 s15 e' o' f _ (by omega) x2 x3 x4 ga (fun x z1 _ _ => gi x z1) k1 k2 k3 k4 k5 k6 k7 k8 k9 l1 l2 l3 y3 t4
    cases hz : (z_cor kd (.inr p)).2 with
    | inl q => exact halt (by rw [hz]; rfl) (by rw [hz]; rfl) (by rw [z_cil, hz])
    | inr q =>
      by_cases w : kd q = 6
      · have y1 : z_skr kd 6 (z_cor kd (.inr p)).2 = (true, .inr (q + 1)) := by rw [hz]; show (if kd q = 6 then _ else _) = _; rw [if_pos w]
        have hc1 : z_cil kd (d + 1) p = ((z_cor kd (.inr p)).1 :: (z_cil kd d (q + 1)).1, (z_cil kd d (q + 1)).2) := by rw [z_cil, hz]; simp only []; rw [if_pos w]
        rw [y1, if_neg (show ¬ z_g true = 0 from (by decide))] at t4
        rw [y1] at x4
        rw [hz] at k7
        have k7' : 2 * o' ≤ q + 1 ∧ e' ≤ o' ∧ 4 * (cc + 1) ≤ q + 1 := k7
        obtain ⟨u', e2, o2, j1, j2, j3, j4, j5, j6, j7, j8, j9, j10, j11, j12, j13, j14⟩ := ih (i + 1) (q + 1) e' o' (cc + 1) (f + 1) s15 (by omega) (by omega) x2 x3 x4 ⟨by omega, by omega, by omega⟩ (by rw [gi 3009 (by decide)]; exact k3) (by rw [gi 3073 (by decide)]; exact k4) (by rw [gi 3841 (by decide)]; exact k2) (by rw [ga]; exact k8)
        rw [hc1]
        have ln : ((z_cor kd (.inr p)).1 :: (z_cil kd d (q + 1)).1).length = (z_cil kd d (q + 1)).1.length + 1 := rfl
        refine ⟨u', e2, o2, t4.trans j1, j2, j3, j4, ⟨fun j hj => ?_, fun j hj => ?_, fun j hj => ?_, fun j hj => ?_, fun j hj => ?_⟩, j6, j7, by rw [j8, ln, show cc + 1 + (z_cil kd d (q + 1)).1.length = cc + ((z_cil kd d (q + 1)).1.length + 1) by omega], by omega, by omega, by rw [ln, show cc + ((z_cil kd d (q + 1)).1.length + 1) = cc + 1 + (z_cil kd d (q + 1)).1.length by omega]; exact j11, by rw [j12, ln, show i + 1 + (z_cil kd d (q + 1)).1.length = i + ((z_cil kd d (q + 1)).1.length + 1) by omega], by rw [ln]; omega, fun q' w' => ?_⟩
        · obtain ⟨z1, z2, z3⟩ := j5.1 j (by omega)
          rw [z1, z2, z3, ga, ga, ga]; exact k1.1 j hj
        · obtain ⟨z1, z2⟩ := j5.2.1 j (by omega)
          rw [z1, z2, ga, ga]; exact k1.2.1 j hj
        · obtain ⟨z1, z2, z3, z4⟩ := j5.2.2.1 j (by omega)
          rw [z1, z2, z3, z4, ga, ga, ga, ga]; exact k1.2.2 j (by omega)
        · rw [j5.2.2.2.1 j hj, ga]; exact k9 j hj
        · rw [j5.2.2.2.2 j (by omega), ga]; exact l2 j (by omega)
        · obtain ⟨v1, v2, v3⟩ := j14 q' w'
          obtain ⟨n1, n2⟩ := l3 q hz
          refine ⟨fun j hj => ?_, fun j hj => ?_, by omega⟩
          · cases j with
            | zero =>
              refine n1.lo ⟨fun j hj => ?_, fun j hj => ?_⟩ ?_ j9 j10
              · have := j5.1 j hj
                rw [ga, ga, ga] at this
                exact this
              · have := j5.2.1 j hj
                rw [ga, ga] at this
                exact this
              · have := j5.2.2.1 cc (by omega)
                rw [ga, ga, ga, ga] at this
                exact this
            | succ j =>
              rw [show cc + (j + 1) = cc + 1 + j by omega]
              exact v1 j (by rw [ln] at hj; omega)
          · cases j with
            | zero =>
              rw [j5.2.2.2.2 (3 * c + i + 0) (by omega), ga]
              exact l1
            | succ j =>
              rw [show 3 * c + i + (j + 1) = 3 * c + (i + 1) + j by omega, show cc + (j + 1) = cc + 1 + j by omega]
              exact v2 j (by rw [ln] at hj; omega)
      · exact halt (by rw [hz]; show (if kd q = 6 then ((true, .inr (q + 1)) : Bool × z_P) else (false, .inr q)).1 = false; rw [if_neg w]) (by rw [hz]; show (if kd q = 6 then ((true, .inr (q + 1)) : Bool × z_P) else (false, .inr q)).2 = _; rw [if_neg w]) (by rw [z_cil, hz]; simp only []; rw [if_neg w])
end
