/-! THE CHECK: what names mean -/
/-- the first of i, i + 1 .. (d of them) with a property -/
def z_ff (P : Nat → Bool) : Nat → Nat → Option Nat
  | 0, _ => none
  | d + 1, i => if P i = true then some i else z_ff P d (i + 1)
theorem z_ff_some {P : Nat → Bool} : ∀ {d i k : Nat}, z_ff P d i = some k → i ≤ k ∧ k < i + d ∧ P k = true ∧ ∀ j, i ≤ j → j < k → P j = false := by
  intro d
  induction d with
  | zero => intro i k h; cases h
  | succ d ih =>
    intro i k h
    rw [z_ff] at h
    by_cases w : P i = true
    · rw [if_pos w] at h
      cases h
      exact ⟨Nat.le_refl _, by omega, w, fun j h1 h2 => by omega⟩
    · rw [if_neg w] at h
      obtain ⟨a, b, c, e⟩ := ih h
      refine ⟨by omega, by omega, c, fun j h1 h2 => ?_⟩
      by_cases y : j = i
      · rw [y]; cases hP : P i with
        | true => exact absurd hP w
        | false => rfl
      · exact e j (by omega) h2
theorem z_ff_none {P : Nat → Bool} : ∀ {d i : Nat}, z_ff P d i = none → ∀ j, i ≤ j → j < i + d → P j = false := by
  intro d
  induction d with
  | zero => intro i h j h1 h2; omega
  | succ d ih =>
    intro i h j h1 h2
    rw [z_ff] at h
    by_cases w : P i = true
    · rw [if_pos w] at h; cases h
    · rw [if_neg w] at h
      by_cases y : j = i
      · rw [y]; cases hP : P i with
        | true => exact absurd hP w
        | false => rfl
      · exact ih h j (by omega) (by omega)
abbrev z_Mn : Type := Option (Nat ⊕ Nat)
def z_mng (N : Nat → Nat) (ps : List z_Pa) (tc t : Nat) : z_Mn := match z_ff (fun k => decide (N (ps.getD k z_pa0).1 = N t)) ps.length 0 with
  | some k => some (.inl k)
  | none => match z_ff (fun k => decide (N t = 29744 + k)) tc 0 with
    | some k => some (.inr k)
    | none => none
def z_mc (m : z_Mn) : Int32 := match m with
  | none => -1
  | some (.inl k) => Int32.ofNat (10 + k)
  | some (.inr k) => Int32.ofNat k
/-- a name token -/
def z_isn (n : Nat) (kd : Nat → Nat) (t : Nat) : Prop := t < n ∧ kd t = 36
def z_mark (N : Nat → Nat) (x : z_Pa) (q : Nat) : Bool := match x.2.2.2.2.2 with
  | none => false
  | some y => decide (N (y + 2) = N q)
def z_trl (N : Nat → Nat) (x : z_Pa) (q : Nat) : Bool := match x.2.2.2.2.1 with
  | none => false
  | some y => decide (N (y.2 + 5) = N q)
def z_pcl (N : Nat → Nat) (x : z_Pa) (q : Nat) : Option Nat := match z_ff (fun i => decide (N (x.2.1.getD i 0) = N q)) x.2.1.length 0 with
  | some i => some i
  | none => if z_mark N x q = true then some 3 else if z_trl N x q = true then some 4 else none
def z_cln (N : Nat → Nat) (ps : List z_Pa) (cols : Nat → Nat) (m : z_Mn) (q : Nat) : Option Nat := match m with
  | none => none
  | some (.inr t) => z_ff (fun k => decide (N q = 97 + k)) (cols t) 0
  | some (.inl k) => z_pcl N (ps.getD k z_pa0) q
/-- as the reference has it -/
def z_cc (ps : List z_Pa) (m : z_Mn) (o : Bool) (c : Option Nat) : Int32 := match m with
  | some (.inl k) => (match c with
    | none => -1
    | some i => if i < 3 then Int32.ofNat i else if i = 3 then Int32.ofNat (ps.getD k z_pa0).2.1.length else if o = true then 100 else -1)
  | _ => (match c with
    | none => -1
    | some i => Int32.ofNat i)
def z_slt (N : Nat → Nat) (srs : List Nat) (p : Nat) (wi : Option Nat) : Option Nat := match z_ff (fun k => decide (N (srs.getD k 0 + 1) = N p)) srs.length 0 with
  | some k => some k
  | none => match wi with
    | none => none
    | some w => if N (w + 1) = N p then some 3 else none
def z_oc (c : Option Nat) : Int32 := match c with
  | none => -1
  | some i => Int32.ofNat i
theorem z_oc_n {i : Nat} (h : i < 2 ^ 31) : ¬ Int32.ofNat i = -1 := fun e => by
  have := congrArg Int32.toInt e
  rw [Int32.toInt_ofNat_of_lt h] at this
  have h2 : (-1 : Int32).toInt = -1 := rfl
  omega
section
variable {n : Nat} {kd pl nw nv : Nat → Nat} {wd vl : Nat → Int64}
theorem z_NM.eq (NM : z_NM n kd wd vl nw nv) {i j : Nat} (hi : z_isn n kd i) (hj : z_isn n kd j) : (vl i = vl j) = (nw i = nw j) := by
  obtain ⟨a1, a2, a3, a4, a5, a6⟩ := NM.1 i hi.1 hi.2
  obtain ⟨b1, b2, b3, b4, b5, b6⟩ := NM.1 j hj.1 hj.2
  rw [a2, b2]
  exact propext ((z_i64 (by omega) (by omega)).trans (NM.2.1 i j hi.1 hj.1 hi.2 hj.2).symm)
theorem z_NM.eqE (NM : z_NM n kd wd vl nw nv) {i j : Nat} (hi : z_isn n kd i) (hj : z_isn n kd j) : (wd i = wd j) = (nw i = nw j) := by
  obtain ⟨a1, a2, a3, a4, a5, a6⟩ := NM.1 i hi.1 hi.2
  obtain ⟨b1, b2, b3, b4, b5, b6⟩ := NM.1 j hj.1 hj.2
  rw [a1, b1]
  exact propext (z_i64 (by omega) (by omega))
theorem z_NM.tb (NM : z_NM n kd wd vl nw nv) {i k : Nat} (hi : z_isn n kd i) (hk : k < 5) : (vl i = 767 + (Int32.ofNat k).toInt64) = (nw i = 29744 + k) := by
  obtain ⟨a1, a2, a3, a4, a5, a6⟩ := NM.1 i hi.1 hi.2
  rw [a2, z_toI64 (by omega), show (767 : Int64) = Int64.ofNat 767 from rfl, ← Int64.ofNat_add]
  exact propext ((z_i64 (by omega) (by omega)).trans (NM.2.2.1 i k hi.1 hi.2 hk).symm)
/-- the reference's tokens, read -/
theorem z_tkv {u : g_St} (hm : m_Fix u) (tk : z_tkM u n kd pl vl) (H : z_H n kd) {t : Nat} (ht : t < n) {α : Type} (F : Int64 → Option α) : g_aL u (some 725) (Int32.ofNat t) F = F (vl t) := by
  have := H.2.1
  rw [x_aL (by omega) (by rw [(m_at hm m_k769).2]; omega), (tk t (by omega)).2.2 ht]
theorem b_mng44 (NM : z_NM n kd wd vl nw nv) (H : z_H n kd) {u : g_St} (hm : m_Fix u) (tk : z_tkM u n kd pl vl) {tc : Nat} (htc : g_I u 65 1 = Int32.ofNat tc) (h5 : tc ≤ 5) {t : Nat} (ht : z_isn n kd t) : ∀ d k f, k + d = tc → d < f → f_M_meaning_44 f (some 1) (Int32.ofNat t) (Int32.ofNat k) u = some (match z_ff (fun k => decide (nw t = 29744 + k)) d k with | some j => Int32.ofNat j | none => -1, u) := by
  intro d
  induction d with
  | zero =>
    intro k f h1 h2
    obtain ⟨f, rfl⟩ : ∃ m, f = m + 1 := ⟨f - 1, by omega⟩
    rw [f_M_meaning_44, x_gI, htc, if_pos (by rw [x_le (by omega) (by omega)]; omega)]
    rfl
  | succ d ih =>
    intro k f h1 h2
    obtain ⟨f, rfl⟩ : ∃ m, f = m + 1 := ⟨f - 1, by omega⟩
    rw [f_M_meaning_44, x_gI, htc, if_neg (by rw [x_le (by omega) (by omega)]; omega), x_gR, (m_at hm m_k769).1, z_tkv hm tk H ht.1, z_ff]
    have e := NM.tb ht (show k < 5 by omega)
    by_cases w : nw t = 29744 + k
    · rw [if_pos (by rw [e]; exact w), if_pos (decide_eq_true w)]
    · rw [if_neg (by rw [e]; exact w), if_neg (by rw [decide_eq_true_eq]; exact w), x_p1]
      exact ih (k + 1) f (by omega) (by omega)
/-- a query whose names are names -/
def M_ck (n : Nat) (kd pl : Nat → Nat) (vl : Nat → Int64) (u : g_St) (C : Nat → Nat) (x : z_Qu) (tc : Nat) (cols : Nat → Nat) : Prop := m_Fix u ∧ z_tkM u n kd pl vl ∧ M_qu pl u C x ∧ (g_I u 65 1 = Int32.ofNat tc ∧ tc ≤ 5 ∧ ∀ t, t < tc → g_AI u 916 t = Int32.ofNat (cols t) ∧ cols t ≤ 3)
theorem z_ps_isn {x : z_Qu} {q : Nat} (W : z_wqu kd q x) (hq : q ≤ n) : ∀ k, k < x.2.1.length → z_isn n kd (x.2.1.getD k z_pa0).1 := fun k hk => by
  obtain ⟨a, b, h1, h2, h3, h4, h5⟩ := W
  have hm : x.2.1.getD k z_pa0 ∈ x.2.1 := by
    rw [List.getD_eq_getElem?_getD, List.getElem?_eq_getElem hk]
    exact List.getElem_mem hk
  obtain ⟨p1, q1, g1, g2, g3⟩ := h1.all _ hm
  have hlt : p1 < q1 := by
    obtain ⟨-, -, a', b', d', c1, c2, c3, c4, -, -⟩ := g3
    have l1 := c1.le
    have l2 := c2.le
    have l3 : b' ≤ d' := by
      revert c3
      cases (x.2.1.getD k z_pa0).2.2.2.2.1 with
      | none => intro c3; exact c3
      | some y => intro c3; have := c3.1; have := c3.2.2.2; omega
    have l4 : d' ≤ q1 := by
      revert c4
      cases (x.2.1.getD k z_pa0).2.2.2.2.2 with
      | none => intro c4; exact c4
      | some y => intro c4; have := c4.1; have := c4.2.2.2; omega
    omega
  have hod : b ≤ q := by
    revert h4
    cases x.2.2.2 with
    | none => intro h4; exact h4
    | some y => intro h4; have := h4.1; have := h4.2.2.1.le; omega
  rw [g3.1]
  exact ⟨by omega, g3.2.1⟩
theorem b_mng (NM : z_NM n kd wd vl nw nv) (H : z_H n kd) {u : g_St} {C : Nat → Nat} {x : z_Qu} {tc : Nat} {cols : Nat → Nat} (K : M_ck n kd pl vl u C x tc cols) (hp : ∀ k, k < x.2.1.length → z_isn n kd (x.2.1.getD k z_pa0).1) {t : Nat} (ht : z_isn n kd t) : f_M_meaning (some 1) (Int32.ofNat t) u = some (z_mc (z_mng nw x.2.1 tc t), u) := by
  obtain ⟨hm, tk, Q, htc, h5, -⟩ := K
  obtain ⟨q1, q2, q3, q4, q5, -⟩ := Q
  have key : ∀ d k f, k + d = x.2.1.length → d < f → f_M_meaning_2 f (some 1) (Int32.ofNat t) (Int32.ofNat k) u = (match z_ff (fun k => decide (nw (x.2.1.getD k z_pa0).1 = nw t)) d k with | some j => some (Int32.ofNat (10 + j), u) | none => f_M_meaning_44 200000 (some 1) (Int32.ofNat t) 0 u) := by
    intro d
    induction d with
    | zero =>
      intro k f h1 h2
      obtain ⟨f, rfl⟩ : ∃ m, f = m + 1 := ⟨f - 1, by omega⟩
      rw [f_M_meaning_2, x_gI, q1 _ (by decide), q3, if_pos (by rw [x_le (by omega) (by omega)]; omega)]
      rfl
    | succ d ih =>
      intro k f h1 h2
      obtain ⟨f, rfl⟩ : ∃ m, f = m + 1 := ⟨f - 1, by omega⟩
      have hk : k < x.2.1.length := by omega
      have pk := hp k hk
      have := H.2.1
      have := pk.1
      rw [f_M_meaning_2, x_gI, q1 _ (by decide), q3, if_neg (by rw [x_le (by omega) (by omega)]; omega), x_gR, (m_at hm m_k769).1, x_gR, (m_at hm m_k1217).1, x_aI (by omega) (by rw [(m_at hm m_k1217).2]; omega), (q5 k hk).2.1, z_tkv hm tk H pk.1, x_gR, (m_at hm m_k769).1, z_tkv hm tk H ht.1, z_ff]
      have e := NM.eq pk ht
      by_cases w : nw (x.2.1.getD k z_pa0).1 = nw t
      · rw [if_pos (by rw [e]; exact w), if_pos (decide_eq_true w), show (10 : Int32) = Int32.ofNat 10 from rfl, x_add]
      · rw [if_neg (by rw [e]; exact w), if_neg (by rw [decide_eq_true_eq]; exact w), x_p1]
        exact ih (k + 1) f (by omega) (by omega)
  unfold f_M_meaning
  refine (key x.2.1.length 0 200000 (by omega) (by omega)).trans ?_
  unfold z_mng
  cases h : z_ff (fun k => decide (nw (x.2.1.getD k z_pa0).1 = nw t)) x.2.1.length 0 with
  | some k => rfl
  | none =>
    simp only []
    refine (b_mng44 NM H hm tk htc h5 ht tc 0 200000 (by omega) (by omega)).trans ?_
    cases z_ff (fun k => decide (nw t = 29744 + k)) tc 0 with
    | some k => rfl
    | none => rfl
end
