/-! ROW, CLEAR -/
def z_nul (x : Int32) (k : Nat) (v : Int32) : Int64 := if x.toBitVec.getLsbD k = true then 1099511627776 else v.toInt64
theorem z_bvE (v : BitVec 32) (k : Nat) (hk : k < 32) (m : BitVec 32) (hm : ∀ i, m.getLsbD i = decide (i = k)) : (v &&& m = 0#32) ↔ v.getLsbD k = false := by
  constructor
  · intro h
    have := congrArg (fun b => b.getLsbD k) h
    simp [BitVec.getLsbD_and, hm] at this
    exact this
  · intro h
    apply BitVec.eq_of_getLsbD_eq
    intro i hi
    rw [BitVec.getLsbD_and, hm]
    by_cases e : i = k
    · rw [e, h]; simp
    · simp [e]
theorem z_nE (x c : Int32) (k : Nat) (hk : k < 32) (hc : c.toBitVec = BitVec.twoPow 32 k) : (x &&& c = 0) = (x.toBitVec.getLsbD k = false) := by
  apply propext
  rw [← z_bvE x.toBitVec k hk c.toBitVec (fun i => by
    rw [hc, BitVec.getLsbD_twoPow]
    by_cases e : i = k
    · subst e; simp [hk]
    · have : ¬ k = i := fun w => e w.symm
      simp [e, this])]
  exact ⟨fun h => congrArg Int32.toBitVec h, fun h => Int32.toBitVec.inj h⟩
theorem z_nM (x c : Int32) (k : Nat) (hk : k < 32) (hc : (x >>> c).toBitVec = x.toBitVec.sshiftRight k) : (((x >>> c) &&& 1) = 1) = (x.toBitVec.getLsbD k = true) := by
  apply propext
  have h1 : ((x >>> c) &&& 1 = 0) = ((x >>> c).toBitVec.getLsbD 0 = false) := z_nE (x >>> c) 1 0 (by decide) (by decide)
  have h2 : (x >>> c).toBitVec.getLsbD 0 = x.toBitVec.getLsbD k := by
    rw [hc, BitVec.getLsbD_sshiftRight]
    simp [hk]
  rw [h2] at h1
  have h3 : ((x >>> c) &&& 1) = 0 ∨ ((x >>> c) &&& 1) = 1 := by
    have e : ∀ v : BitVec 32, v &&& 1#32 = 0#32 ∨ v &&& 1#32 = 1#32 := fun v => by
      by_cases w : v.getLsbD 0 = true
      · right
        apply BitVec.eq_of_getLsbD_eq
        intro i hi
        rw [BitVec.getLsbD_and]
        by_cases z : i = 0
        · subst z; simp [w]
        · simp [BitVec.getLsbD_one, z]
      · left
        have w' : v.getLsbD 0 = false := by simpa using w
        apply BitVec.eq_of_getLsbD_eq
        intro i hi
        rw [BitVec.getLsbD_and]
        by_cases z : i = 0
        · subst z; rw [w']; simp
        · simp [BitVec.getLsbD_one, z]
    rcases e (x >>> c).toBitVec with q | q
    · exact Or.inl (Int32.toBitVec.inj q)
    · exact Or.inr (Int32.toBitVec.inj q)
  constructor
  · intro h
    by_cases w : x.toBitVec.getLsbD k = true
    · exact w
    · have : ((x >>> c) &&& 1) = 0 := by rw [h1]; simpa using w
      rw [this] at h
      exact absurd h (by decide)
  · intro h
    rcases h3 with q | q
    · rw [h1, h] at q
      cases q
    · exact q
theorem z_rowE {u : g_St} {t c a n : Nat} (x2 x3 x4 x5 : Int32) (ht : t < n) (hn : n ≤ 5) (h64 : g_I u 64 0 = Int32.ofNat n) (r0 : g_R u 0 0 = some 29) (l0 : g_ln u 29 = 5) (hr : g_AR u 29 t = some ((5 + t) * 64 + 5)) (hcn : g_I u 261 ((5 + t) * 64 + 5) = Int32.ofNat c) (hc : c < 16) (ha : g_R u 69 ((5 + t) * 64 + 5) = some a) (hl : g_ln u a = 68) :
    f_E_row (some 0) (Int32.ofNat t) x2 x3 x4 x5 u = some (.inl (Int32.ofNat (c + 1)), g_setI (g_setAL (g_setAL (g_setAL u a (c * 4) (z_nul x5 0 x2)) a (c * 4 + 1) (z_nul x5 1 x3)) a (c * 4 + 2) (z_nul x5 2 x4)) 261 ((5 + t) * 64 + 5) (Int32.ofNat (c + 1))) := by
  have n0 := z_nE x5 1 0 (by decide) (by decide)
  have n1 := z_nE x5 2 1 (by decide) (by decide)
  have n2 := z_nE x5 4 2 (by decide) (by decide)
  have c4 : Int32.ofNat c * 4 = Int32.ofNat (c * 4) := (Int32.ofNat_mul c 4).symm
  have c1 : Int32.ofNat (c * 4) + 1 = Int32.ofNat (c * 4 + 1) := (Int32.ofNat_add _ _).symm
  have c2 : Int32.ofNat (c * 4) + 2 = Int32.ofNat (c * 4 + 2) := (Int32.ofNat_add _ _).symm
  have k3 : ∀ v : Int64, ∀ w : g_St, g_ln w a = 68 → g_I w 261 ((5 + t) * 64 + 5) = Int32.ofNat c → f_E_row_132 (some ((5 + t) * 64 + 5)) (some a) (Int32.ofNat (c * 4 + 2)) v w = some (.inl (Int32.ofNat (c + 1)), g_setI (g_setAL w a (c * 4 + 2) v) 261 ((5 + t) * 64 + 5) (Int32.ofNat (c + 1))) := by
    intro v w hw hi
    unfold f_E_row_132
    rw [x_sL (by omega) (by omega), x_gI, show g_I (g_setAL w a (c * 4 + 2) v) 261 ((5 + t) * 64 + 5) = Int32.ofNat c from hi, x_pI, x_gI, x_I_I, if_pos ⟨rfl, rfl⟩, x_p1]
  have k2 : ∀ v : Int64, ∀ w : g_St, g_ln w a = 68 → g_I w 261 ((5 + t) * 64 + 5) = Int32.ofNat c → g_R w 69 ((5 + t) * 64 + 5) = some a → f_E_row_106 x4 x5 (some ((5 + t) * 64 + 5)) (Int32.ofNat (c * 4)) (some a) (Int32.ofNat (c * 4 + 1)) v w = some (.inl (Int32.ofNat (c + 1)), g_setI (g_setAL (g_setAL w a (c * 4 + 1) v) a (c * 4 + 2) (z_nul x5 2 x4)) 261 ((5 + t) * 64 + 5) (Int32.ofNat (c + 1))) := by
    intro v w hw hi hR
    unfold f_E_row_106
    rw [x_sL (by omega) (by omega), x_gR, show g_R (g_setAL w a (c * 4 + 1) v) 69 ((5 + t) * 64 + 5) = some a from hR, c2]
    unfold z_nul
    by_cases q : x5.toBitVec.getLsbD 2 = true
    · rw [if_neg (by rw [n2, q]; decide), if_pos q]
      exact k3 _ _ hw hi
    · rw [if_pos (by rw [n2]; simpa using q), if_neg q]
      exact k3 _ _ hw hi
  have k1 : ∀ v : Int64, f_E_row_81 x3 x4 x5 (some ((5 + t) * 64 + 5)) (Int32.ofNat (c * 4)) (some a) (Int32.ofNat (c * 4)) v u = some (.inl (Int32.ofNat (c + 1)), g_setI (g_setAL (g_setAL (g_setAL u a (c * 4) v) a (c * 4 + 1) (z_nul x5 1 x3)) a (c * 4 + 2) (z_nul x5 2 x4)) 261 ((5 + t) * 64 + 5) (Int32.ofNat (c + 1))) := by
    intro v
    unfold f_E_row_81
    rw [x_sL (by omega) (by omega), x_gR, show g_R (g_setAL u a (c * 4) v) 69 ((5 + t) * 64 + 5) = some a from ha, c1]
    have e : z_nul x5 1 x3 = if x5.toBitVec.getLsbD 1 = true then 1099511627776 else x3.toInt64 := rfl
    rw [e]
    by_cases q : x5.toBitVec.getLsbD 1 = true
    · rw [if_neg (by rw [n1, q]; decide), if_pos q]
      exact k2 _ _ hl hcn ha
    · rw [if_pos (by rw [n1]; simpa using q), if_neg q]
      exact k2 _ _ hl hcn ha
  unfold f_E_row
  have e5 : (Int32.ofNat c < 16) = (c < 16) := x_lt (b := 16) (by omega) (by decide)
  rw [if_neg (by rw [l_0, x_lt (by omega) (by decide)]; omega), x_gI, h64, if_pos (by rw [x_lt (by omega) (by omega)]; exact ht), x_gR, r0, x_aR (by omega) (by omega), hr, x_gI, hcn, if_pos (by rw [e5]; exact hc), x_gI, hcn, x_gR, ha, c4]
  have e : z_nul x5 0 x2 = if x5.toBitVec.getLsbD 0 = true then 1099511627776 else x2.toInt64 := rfl
  rw [e]
  by_cases q : x5.toBitVec.getLsbD 0 = true
  · rw [if_neg (by rw [n0, q]; decide), if_pos q]
    exact k1 _
  · rw [if_pos (by rw [n0]; simpa using q), if_neg q]
    exact k1 _
theorem z_rowM {u : g_St} {t c n : Nat} (x2 x3 x4 x5 : Int32) (hm : m_Fix u) (ht : t < n) (hn : n ≤ 5) (h65 : g_I u 65 1 = Int32.ofNat n) (hcn : g_AI u 980 t = Int32.ofNat c) (hc : c < 16) :
    f_M_row (some 1) (Int32.ofNat t) x2 x3 x4 x5 u = some (Int32.ofNat (c + 1), g_setAI (g_setAL (g_setAL (g_setAL (g_setI u 1 1 0) 597 (48 * t + 3 * c) (z_nul x5 0 x2)) 597 (48 * t + 3 * c + 1) (z_nul x5 1 x3)) 597 (48 * t + 3 * c + 2) (z_nul x5 2 x4)) 980 t (Int32.ofNat (c + 1))) := by
  have r193 : g_R u 193 1 = some 980 := (hm _ m_k193).1
  have r257 : g_R u 257 1 = some 597 := (hm _ m_k257).1
  have l193 : g_ln u 980 = 5 := (hm _ m_k193).2
  have l257 : g_ln u 597 = 240 := (hm _ m_k257).2
  have n0 := z_nM x5 (0 &&& 31) 0 (by decide) rfl
  have n1 := z_nM x5 (1 &&& 31) 1 (by decide) rfl
  have n2 := z_nM x5 (2 &&& 31) 2 (by decide) rfl
  have it : ∀ (k : Nat) (m : Nat) (w : g_St) (v : Int32) (x7 : Int32), x7 = Int32.ofNat k → k < 3 → g_R w 257 1 = some 597 → g_ln w 597 = 240 → (((x5 >>> (x7 &&& 31)) &&& 1) = 1) = (x5.toBitVec.getLsbD k = true) → (v = if x7 = 0 then x2 else if x7 = 1 then x3 else x4) → f_M_row_63 (m + 1) (some 1) (Int32.ofNat t) x2 x3 x4 x5 (Int32.ofNat (48 * t + 3 * c)) x7 w = f_M_row_63 m (some 1) (Int32.ofNat t) x2 x3 x4 x5 (Int32.ofNat (48 * t + 3 * c)) (x7 + 1) (g_setAL w 597 (48 * t + 3 * c + k) (z_nul x5 k v)) := by
    intro k m w v x7 e7 hk hR hL hb hv
    have ea : Int32.ofNat (48 * t + 3 * c) + x7 = Int32.ofNat (48 * t + 3 * c + k) := by rw [e7]; exact (Int32.ofNat_add _ _).symm
    rw [f_M_row_63, if_neg (by rw [e7, show (3 : Int32) = Int32.ofNat 3 from rfl, x_le (by decide) (by omega)]; omega), x_gR, hR, ea]
    unfold z_nul
    by_cases q : x5.toBitVec.getLsbD k = true
    · rw [if_pos (by rw [hb]; exact q), if_pos q, x_sL (by omega) (by omega)]
    · rw [if_neg (by rw [hb]; exact q), if_neg q]
      by_cases q0 : x7 = 0
      · rw [if_pos q0] at hv
        rw [if_pos q0, x_sL (by omega) (by omega), hv]
      · rw [if_neg q0] at hv
        rw [if_neg q0]
        by_cases q1 : x7 = 1
        · rw [if_pos q1] at hv
          rw [if_pos q1, x_sL (by omega) (by omega), hv]
        · rw [if_neg q1] at hv
          rw [if_neg q1, x_sL (by omega) (by omega), hv]
  have e16 : (Int32.ofNat c = 16) = (c = 16) := x_eq (b := 16) (by omega) (by decide)
  have eat : 48 * Int32.ofNat t + 3 * Int32.ofNat c = Int32.ofNat (48 * t + 3 * c) := by
    rw [Int32.ofNat_add, Int32.ofNat_mul, Int32.ofNat_mul]; rfl
  unfold f_M_row
  rw [if_neg (by rw [l_0, x_lt (by omega) (by decide)]; omega), x_gI, h65, if_pos (by rw [x_lt (by omega) (by omega)]; exact ht), x_gR, r193, x_aI (by omega) (by omega), hcn, if_neg (by rw [e16]; omega)]
  unfold f_M_row_33
  rw [x_pI, x_gI, show g_I (g_setI u 1 1 0) 1 1 = 0 from (by rw [x_I_I, if_pos ⟨rfl, rfl⟩]), if_pos (by decide), x_gR, show g_R (g_setI u 1 1 0) 193 1 = some 980 from r193, x_aI (by omega) (by show t < g_ln u 980; omega), show g_AI (g_setI u 1 1 0) 980 t = Int32.ofNat c from hcn, eat]
  rw [it 0 199999 (g_setI u 1 1 0) x2 0 rfl (by decide) r257 l257 n0 (by rw [if_pos rfl])]
  rw [it 1 199998 (g_setAL (g_setI u 1 1 0) 597 (48 * t + 3 * c + 0) (z_nul x5 0 x2)) x3 (0 + 1) rfl (by decide) r257 l257 n1 (by rw [if_neg (by decide), if_pos (by decide)])]
  rw [it 2 199997 (g_setAL (g_setAL (g_setI u 1 1 0) 597 (48 * t + 3 * c + 0) (z_nul x5 0 x2)) 597 (48 * t + 3 * c + 1) (z_nul x5 1 x3)) x4 (0 + 1 + 1) rfl (by decide) r257 l257 n2 (by rw [if_neg (by decide), if_neg (by decide)])]
  rw [f_M_row_63, if_pos (by decide), x_gR]
  rw [show g_R (g_setAL (g_setAL (g_setAL (g_setI u 1 1 0) 597 (48 * t + 3 * c + 0) (z_nul x5 0 x2)) 597 (48 * t + 3 * c + 1) (z_nul x5 1 x3)) 597 (48 * t + 3 * c + 2) (z_nul x5 2 x4)) 193 1 = some 980 from r193, x_aI (by omega) (by show t < g_ln u 980; omega)]
  rw [show g_AI (g_setAL (g_setAL (g_setAL (g_setI u 1 1 0) 597 (48 * t + 3 * c + 0) (z_nul x5 0 x2)) 597 (48 * t + 3 * c + 1) (z_nul x5 1 x3)) 597 (48 * t + 3 * c + 2) (z_nul x5 2 x4)) 980 t = Int32.ofNat c from hcn, x_sI (by omega) (by show t < g_ln u 980; omega), x_gR]
  rw [show ∀ w : g_St, ∀ v, g_R (g_setAI w 980 t v) 193 1 = g_R w 193 1 from fun _ _ => rfl]
  rw [show g_R (g_setAL (g_setAL (g_setAL (g_setI u 1 1 0) 597 (48 * t + 3 * c + 0) (z_nul x5 0 x2)) 597 (48 * t + 3 * c + 1) (z_nul x5 1 x3)) 597 (48 * t + 3 * c + 2) (z_nul x5 2 x4)) 193 1 = some 980 from r193, x_aI (by omega) (by show t < g_ln u 980; omega), x_AI_AI, if_pos ⟨rfl, rfl⟩, x_p1]
  rfl
theorem z_clearE {u : g_St} {t c n : Nat} (ht : t < n) (hn : n ≤ 5) (h64 : g_I u 64 0 = Int32.ofNat n) (r0 : g_R u 0 0 = some 29) (l0 : g_ln u 29 = 5) (hr : g_AR u 29 t = some ((5 + t) * 64 + 5)) (hcn : g_I u 261 ((5 + t) * 64 + 5) = Int32.ofNat c) :
    f_E_clear (some 0) (Int32.ofNat t) u = some (.inl (Int32.ofNat c), g_setI u 261 ((5 + t) * 64 + 5) 0) := by
  unfold f_E_clear
  rw [if_neg (by rw [l_0, x_lt (by omega) (by decide)]; omega), x_gI, h64, if_pos (by rw [x_lt (by omega) (by omega)]; exact ht), x_gR, r0, x_aR (by omega) (by omega), hr, x_gI, hcn, x_gR, r0, x_aR (by omega) (by omega), hr, x_pI]
theorem z_clearM {u : g_St} {t c n : Nat} (hm : m_Fix u) (ht : t < n) (hn : n ≤ 5) (h65 : g_I u 65 1 = Int32.ofNat n) (hcn : g_AI u 980 t = Int32.ofNat c) :
    f_M_clear (some 1) (Int32.ofNat t) u = some (Int32.ofNat c, g_setAI (g_setI u 1 1 0) 980 t 0) := by
  have r193 : g_R u 193 1 = some 980 := (hm _ m_k193).1
  have l193 : g_ln u 980 = 5 := (hm _ m_k193).2
  unfold f_M_clear
  rw [if_neg (by rw [l_0, x_lt (by omega) (by decide)]; omega), x_gI, h65, if_pos (by rw [x_lt (by omega) (by omega)]; exact ht)]
  unfold f_M_clear_18
  rw [x_pI, x_gI, show g_I (g_setI u 1 1 0) 1 1 = 0 from (by rw [x_I_I, if_pos ⟨rfl, rfl⟩]), if_pos (by decide), x_gR, show g_R (g_setI u 1 1 0) 193 1 = some 980 from r193, x_aI (by omega) (by show t < g_ln u 980; omega), show g_AI (g_setI u 1 1 0) 980 t = Int32.ofNat c from hcn, x_gR, show g_R (g_setI u 1 1 0) 193 1 = some 980 from r193, x_sI (by omega) (by show t < g_ln u 980; omega)]
theorem z_tableM {u : g_St} {n : Nat} {x : Int32} (hm : m_Fix u) (hx1 : ¬ x < 1) (hx3 : x ≤ 3) (hn : n < 5) (h65 : g_I u 65 1 = Int32.ofNat n) :
    f_M_table (some 1) x u = some (Int32.ofNat n, g_setI (g_setAI (g_setAI (g_setI u 1 1 0) 916 n x) 980 n 0) 65 1 (Int32.ofNat (n + 1))) := by
  have r129 : g_R u 129 1 = some 916 := (hm _ m_k129).1
  have l129 : g_ln u 916 = 5 := (hm _ m_k129).2
  have r193 : g_R u 193 1 = some 980 := (hm _ m_k193).1
  have l193 : g_ln u 980 = 5 := (hm _ m_k193).2
  have e5 : (Int32.ofNat n = 5) = (n = 5) := x_eq (b := 5) (by omega) (by decide)
  unfold f_M_table
  rw [if_neg hx1, if_pos hx3, x_gI, h65, if_neg (by rw [e5]; omega)]
  unfold f_M_table_28
  rw [x_pI, x_gI, show g_I (g_setI u 1 1 0) 1 1 = 0 from (by rw [x_I_I, if_pos ⟨rfl, rfl⟩]), if_pos (by decide), x_gR, show g_R (g_setI u 1 1 0) 129 1 = some 916 from r129, x_gI, show g_I (g_setI u 1 1 0) 65 1 = Int32.ofNat n from h65, x_sI (by omega) (by show n < g_ln u 916; omega), x_gR, show g_R (g_setAI (g_setI u 1 1 0) 916 n x) 193 1 = some 980 from r193, x_gI, show g_I (g_setAI (g_setI u 1 1 0) 916 n x) 65 1 = Int32.ofNat n from h65, x_sI (by omega) (by show n < g_ln u 980; omega), x_gI, show g_I (g_setAI (g_setAI (g_setI u 1 1 0) 916 n x) 980 n 0) 65 1 = Int32.ofNat n from h65, x_pI, x_gI, x_I_I, if_pos ⟨rfl, rfl⟩, x_p1, show (1 : Int32) = Int32.ofNat 1 from rfl, x_sub (by omega), show n + 1 - 1 = n by omega]
