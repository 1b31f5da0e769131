/-! TABLES -/
def z_TE (u : g_St) (n : Nat) (col : Nat → Int32) (cnt : Nat → Nat) (cell : Nat → Nat → Nat → Int64) (ca : Nat → Nat) : Prop := g_I u 64 0 = Int32.ofNat n ∧ n ≤ 5 ∧ g_cnt u 5 = 5 + n ∧ ∀ t, t < n → g_AR u 29 t = some ((5 + t) * 64 + 5) ∧ g_R u 69 ((5 + t) * 64 + 5) = some (ca t) ∧ g_ln u (ca t) = 68 ∧ g_I u 5 ((5 + t) * 64 + 5) = col t ∧ g_I u 261 ((5 + t) * 64 + 5) = Int32.ofNat (cnt t) ∧ cnt t ≤ 16 ∧ ∀ i k, i < cnt t → k < 3 → g_AL u (ca t) (4 * i + k) = cell t i k
def z_TM (u : g_St) (n : Nat) (col : Nat → Int32) (cnt : Nat → Nat) (cell : Nat → Nat → Nat → Int64) : Prop := g_I u 65 1 = Int32.ofNat n ∧ n ≤ 5 ∧ ∀ t, t < n → g_AI u 916 t = col t ∧ g_AI u 980 t = Int32.ofNat (cnt t) ∧ cnt t ≤ 16 ∧ ∀ i k, i < cnt t → k < 3 → g_AL u 597 (48 * t + 3 * i + k) = cell t i k
theorem x_ofNat0 : (0 : Int32) = Int32.ofNat 0 := rfl
theorem x_ofNat1 : (1 : Int32) = Int32.ofNat 1 := rfl
theorem z_lt1 {x : Int32} (h1 : ¬ x < 1) (h3 : x ≤ 3) : x = 1 ∨ x = 2 ∨ x = 3 := by
  have a1 : (1 : Int32).toInt = 1 := rfl
  have a3 : (3 : Int32).toInt = 3 := rfl
  rw [Int32.lt_iff_toInt_lt, a1] at h1
  rw [Int32.le_iff_toInt_le, a3] at h3
  have : x.toInt = 1 ∨ x.toInt = 2 ∨ x.toInt = 3 := by omega
  rcases this with h | h | h
  · exact Or.inl (Int32.toInt.inj (h.trans a1.symm))
  · exact Or.inr (Or.inl (Int32.toInt.inj h))
  · exact Or.inr (Or.inr (Int32.toInt.inj (h.trans a3.symm)))
theorem x_lnmk {u : g_St} {t n m a : Nat} (h : g_al u a) (ht : t < 64) : g_ln (g_mk u t n m) a = g_ln u a := by
  rw [x_ln_mk, if_neg (fun e => by
    unfold g_al at h
    rw [e, show (g_cnt u t * 64 + t) % 64 = t by omega] at h
    omega)]
/-- a relation is made: what it is -/
def z_mkRl (u : g_St) (m : Nat) (x : Int32) : g_St :=
  let r := g_cnt u 5 * 64 + 5
  let s1 := g_setI (g_mk u 5 7 0) 5 r x
  let s2 := g_setR (g_mk s1 21 ((m + 1) * 4) ((m + 1) * 4)) 69 r (some (g_cnt s1 21 * 64 + 21))
  let s3 := g_setR (g_mk s2 20 (m + 1) (m + 1)) 133 r (some (g_cnt s2 20 * 64 + 20))
  g_setR (g_mk s3 20 (m + 1) (m + 1)) 197 r (some (g_cnt s3 20 * 64 + 20))
theorem z_mkRl_ln {u : g_St} (m : Nat) (x : Int32) {a : Nat} (h : g_al u a) : g_ln (z_mkRl u m x) a = g_ln u a := by
  have hal : a / 64 < g_cnt u (a % 64) := h
  have e5 : a ≠ g_cnt u 5 * 64 + 5 := fun e => by rw [show a % 64 = 5 by omega] at hal; omega
  have e21 : a ≠ g_cnt u 21 * 64 + 21 := fun e => by rw [show a % 64 = 21 by omega] at hal; omega
  have e20 : a ≠ g_cnt u 20 * 64 + 20 := fun e => by rw [show a % 64 = 20 by omega] at hal; omega
  have e20' : a ≠ (g_cnt u 20 + 1) * 64 + 20 := fun e => by rw [show a % 64 = 20 by omega] at hal; omega
  simp [z_mkRl, x_ln_R, x_ln_I, x_ln_mk, x_cnt_R, x_cnt_I, x_cnt_mk, e5, e21, e20, e20']
theorem z_tableE {u : g_St} {n : Nat} {x : Int32} (hx1 : ¬ x < 1) (hx3 : x ≤ 3) (hn : n < 5) (h64 : g_I u 64 0 = Int32.ofNat n) (r0 : g_R u 0 0 = some 29) (l0 : g_ln u 29 = 5) (ha : g_al u 29) (h5 : 0 < g_cnt u 5) (hc : g_cn u + 10 ≤ 601024) (hs : g_sn u + 200 ≤ 7293034) :
    f_E_table (some 0) x u = some (.inl (Int32.ofNat n), g_setI (g_setAR (z_mkRl u 16 x) 29 n (some (g_cnt u 5 * 64 + 5))) 64 0 (Int32.ofNat (n + 1))) := by
  have hI : g_I (z_mkRl u 16 x) 64 0 = Int32.ofNat n := by
    have e : 0 ≠ g_cnt u 5 * 64 + 5 := by omega
    have e1 : 0 ≠ g_cnt u 21 * 64 + 21 := by omega
    have e2 : 0 ≠ g_cnt u 20 * 64 + 20 := by omega
    simp [z_mkRl, x_I_R, x_I_I, x_I_mk, x_cnt_R, x_cnt_I, x_cnt_mk, h64]
  unfold f_E_table f_Rl_init
  rw [if_neg hx1, if_pos hx3, x_gI, h64, if_pos (by rw [show (5 : Int32) = Int32.ofNat 5 from rfl, x_lt (by omega) (by decide)]; exact hn), x_gR, r0, x_gI, h64, x_new (by omega) (by omega), x_nn, x_nn, x_pI]
  rw [show ((16 : Int32) + 1) * 4 = Int32.ofNat 68 from rfl, x_newA (by decide) (by simp only [x_cn_I, x_cn_mk]; omega) (by simp only [x_sn_I, x_sn_mk]; omega), x_pR]
  rw [show ((16 : Int32) + 1) = Int32.ofNat 17 from rfl, x_newA (by decide) (by simp only [x_cn_R, x_cn_I, x_cn_mk]; omega) (by simp only [x_sn_R, x_sn_I, x_sn_mk]; omega), x_pR]
  rw [x_newA (by decide) (by simp only [x_cn_R, x_cn_I, x_cn_mk]; omega) (by simp only [x_sn_R, x_sn_I, x_sn_mk]; omega), x_pR, x_c]
  show g_sR (z_mkRl u 16 x) (some 29) (Int32.ofNat n) (some (g_cnt u 5 * 64 + 5)) _ = _
  rw [x_sR (by omega) (by rw [z_mkRl_ln 16 x ha, l0]; exact hn), x_gI]
  rw [show g_I (g_setAR (z_mkRl u 16 x) 29 n (some (g_cnt u 5 * 64 + 5))) 64 0 = Int32.ofNat n from hI, x_pI, x_gI, x_I_I, if_pos ⟨rfl, rfl⟩, x_p1, show (1 : Int32) = Int32.ofNat 1 from rfl, x_sub (by omega), show n + 1 - 1 = n by omega]
