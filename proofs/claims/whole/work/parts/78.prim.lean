/-! READING TOKENS: the engine's and the reference's primitives -/
/-- a token's kind: the engine's number of it, the reference's -/
def z_km (k : Nat) : Int32 := ([1, 2, 3, 4, 5, 6, 7, 8, 9, 10, 11, 12, 13, 14, 15, 16, 17, 18, 19, 20, 21, 22, 23, 24, 25, 144, 140, 141, 146, 143, 145, 161, 160, 162, 142, 32, 30, 31, 99, 0] : List Int32).getD k (-1)
theorem z_km_inj {a b : Nat} (ha : a < 40) (hb : b < 40) : (z_km a = z_km b) = (a = b) := by
  have w : ((List.range 40).all fun a => (List.range 40).all fun b => decide (z_km a = z_km b ↔ a = b)) = true := by decide +kernel
  exact propext (of_decide_eq_true (List.all_eq_true.mp (List.all_eq_true.mp w a (List.mem_range.mpr ha)) b (List.mem_range.mpr hb)))
def z_tkE (u : g_St) (n : Nat) (kd pl : Nat → Nat) (wd : Nat → Int64) : Prop := ∀ i, i ≤ n → g_AR u 23 i = some (kd i * 64 + 13) ∧ g_AI u 20 i = Int32.ofNat (pl i) ∧ g_AL u 21 i = wd i
def z_tkM (w : g_St) (n : Nat) (kd pl : Nat → Nat) (vl : Nat → Int64) : Prop := ∀ i, i ≤ n → g_AI w 1108 i = z_km (kd i) ∧ g_AI w 1172 i = Int32.ofNat (pl i) ∧ (i < n → g_AL w 725 i = vl i)
theorem x_p1 (p : Nat) : Int32.ofNat p + 1 = Int32.ofNat (p + 1) := (Int32.ofNat_add _ _).symm
theorem x_setI_same {u : g_St} {k a : Nat} {v : Int32} (h : g_I u k a = v) : g_setI u k a v = u := by
  have e : g_u2 u.2.2.1 k a v = u.2.2.1 := by
    funext k' a'
    unfold g_u2
    by_cases w : k' = k ∧ a' = a
    · rw [if_pos w, w.1, w.2]; exact h.symm
    · rw [if_neg w]
  unfold g_setI
  rw [e]
section
variable {u : g_St} {n p : Nat} {kd pl : Nat → Nat} {wd : Nat → Int64}
theorem pE_accept (hE : e_Fix u) (ht : z_tkE u n kd pl wd) (hn : n ≤ 400) (hp : p ≤ n) (hs : g_I u 386 2 = 0) (ha : g_I u 322 2 = Int32.ofNat p) (k : Nat) : f_Re_accept (some 2) (some (k * 64 + 13)) u = if kd p = k then some (1, g_setI u 322 2 (Int32.ofNat (p + 1))) else some (0, u) := by
  unfold f_Re_accept
  rw [x_gI, hs, if_pos rfl, x_gR, (e_R hE 2 rfl).1, x_gI, ha, x_aR (by omega) (by rw [(e_R hE 2 rfl).2]; show p < 401; omega), (ht p hp).1]
  by_cases w : kd p = k
  · rw [if_pos w, if_pos (by rw [w]), x_gI, ha, x_pI, x_p1]; rfl
  · rw [if_neg w, if_neg (fun q => w (by have := Option.some.inj q; omega))]; rfl
theorem pE_acceptS (hs : g_I u 386 2 = 1) (r : Option Nat) : f_Re_accept (some 2) r u = some (0, u) := by
  unfold f_Re_accept
  rw [x_gI, hs, if_neg (by decide)]; rfl
theorem pE_expect (hE : e_Fix u) (ht : z_tkE u n kd pl wd) (hn : n ≤ 400) (hp : p ≤ n) (hs : g_I u 386 2 = 0) (ha : g_I u 322 2 = Int32.ofNat p) (k : Nat) : f_Re_expect (some 2) (some (k * 64 + 13)) u = if kd p = k then some ((), g_setI u 322 2 (Int32.ofNat (p + 1))) else some ((), g_setI u 386 2 1) := by
  unfold f_Re_expect
  rw [x_gI, hs, if_pos rfl, x_gR, (e_R hE 2 rfl).1, x_gI, ha, x_aR (by omega) (by rw [(e_R hE 2 rfl).2]; show p < 401; omega), (ht p hp).1]
  by_cases w : kd p = k
  · rw [if_pos w, if_pos (by rw [w]), x_gI, ha, x_pI, x_p1]
  · rw [if_neg w, if_neg (fun q => w (by have := Option.some.inj q; omega))]; rfl
theorem pE_expectS (hs : g_I u 386 2 = 1) (r : Option Nat) : f_Re_expect (some 2) r u = some ((), u) := by
  unfold f_Re_expect
  rw [x_gI, hs, if_neg (by decide)]
  show some ((), g_setI u 386 2 1) = _
  rw [x_setI_same hs]
theorem pE_name (hE : e_Fix u) (ht : z_tkE u n kd pl wd) (hn : n ≤ 400) (hp : p ≤ n) (hs : g_I u 386 2 = 0) (ha : g_I u 322 2 = Int32.ofNat p) : f_Re_name (some 2) u = if kd p = 36 then some (wd p, g_setI u 322 2 (Int32.ofNat (p + 1))) else some (0, g_setI u 386 2 1) := by
  unfold f_Re_name
  rw [x_gI, hs, if_pos rfl, x_gR, (e_R hE 2 rfl).1, x_gI, ha, x_aR (by omega) (by rw [(e_R hE 2 rfl).2]; show p < 401; omega), (ht p hp).1]
  by_cases w : kd p = 36
  · rw [if_pos w, if_pos (by rw [w]), x_gI, ha, x_pI, x_gR, show g_R (g_setI u 322 2 (Int32.ofNat p + 1)) 258 2 = some 21 from (e_R hE 4 rfl).1, x_gI, x_I_I, if_pos ⟨rfl, rfl⟩]
    have e : Int32.ofNat p + 1 = Int32.ofNat (p + 1) := (Int32.ofNat_add _ _).symm
    rw [e, show (1 : Int32) = Int32.ofNat 1 from rfl, x_sub (by omega), x_aL (by omega) (by show p + 1 - 1 < g_ln u 21; rw [(e_R hE 4 rfl).2]; show p + 1 - 1 < 401; omega)]
    show some (g_AL u 21 (p + 1 - 1), _) = _
    rw [show p + 1 - 1 = p by omega, (ht p hp).2.2]
  · rw [if_neg w, if_neg (fun q => w (by have := Option.some.inj q; omega))]; rfl
theorem pE_nameS (hs : g_I u 386 2 = 1) : f_Re_name (some 2) u = some (0, u) := by
  unfold f_Re_name
  rw [x_gI, hs, if_neg (by decide)]
  show some (0, g_setI u 386 2 1) = _
  rw [x_setI_same hs]
variable {vl : Nat → Int64}
theorem pM_bad (h : g_I u 833 1 = 0) : f_M_bad (some 1) u = some (0, u) := by
  unfold f_M_bad
  rw [x_gI, h, if_neg (by decide)]; rfl
theorem pM_badS (h : g_I u 833 1 = 1) : f_M_bad (some 1) u = some (1, u) := by
  unfold f_M_bad
  rw [x_gI, h, if_pos rfl]; rfl
theorem pM_is (hm : m_Fix u) (ht : z_tkM u n kd pl vl) (hk : ∀ i, kd i < 40) (hn : n ≤ 400) (hp : p ≤ n) (h : g_I u 833 1 = 0) (ha : g_I u 577 1 = Int32.ofNat p) {k : Nat} (hk2 : k < 40) : f_M_is (some 1) (z_km k) u = if kd p = k then some (1, u) else some (0, u) := by
  unfold f_M_is
  rw [x_nn, pM_bad h, x_c, if_pos rfl, x_gR, (hm _ m_k641).1, x_gI, ha, x_aI (by omega) (by rw [(hm _ m_k641).2]; show p < 402; omega), (ht p hp).1]
  by_cases w : kd p = k
  · rw [if_pos w, if_pos (by rw [z_km_inj (hk p) hk2]; exact w)]; rfl
  · rw [if_neg w, if_neg (by rw [z_km_inj (hk p) hk2]; exact w)]; rfl
theorem pM_isS (h : g_I u 833 1 = 1) (c : Int32) : f_M_is (some 1) c u = some (0, u) := by
  unfold f_M_is
  rw [x_nn, pM_badS h, x_c, if_neg (by decide)]; rfl
theorem pM_note1 (h : g_I u 833 1 = 0) (x : Int32) : f_M_note (some 1) 1 x u = some ((), g_setI (g_setI u 833 1 1) 897 1 x) := by
  unfold f_M_note
  rw [x_gI, h, if_pos (by decide)]; rfl
theorem pM_need (hm : m_Fix u) (ht : z_tkM u n kd pl vl) (hk : ∀ i, kd i < 40) (hn : n ≤ 400) (hp : p ≤ n) (h : g_I u 833 1 = 0) (ha : g_I u 577 1 = Int32.ofNat p) {k : Nat} (hk2 : k < 40) : f_M_need (some 1) (z_km k) u = if kd p = k then some (Int32.ofNat p, g_setI u 577 1 (Int32.ofNat (p + 1))) else some (Int32.ofNat p - 1, g_setI (g_setI u 833 1 1) 897 1 (Int32.ofNat (pl p))) := by
  unfold f_M_need
  rw [x_nn, pM_is hm ht hk hn hp h ha hk2]
  by_cases w : kd p = k
  · rw [if_pos w, if_pos w, x_c, if_neg (by decide), x_gI, ha, x_pI, x_gI, x_I_I, if_pos ⟨rfl, rfl⟩]
    have e : Int32.ofNat p + 1 = Int32.ofNat (p + 1) := (Int32.ofNat_add _ _).symm
    rw [e, show (1 : Int32) = Int32.ofNat 1 from rfl, x_sub (by omega), show p + 1 - 1 = p by omega]
  · rw [if_neg w, if_neg w, x_c, if_pos rfl, x_nn, pM_bad h, x_c, if_pos rfl, x_gR, (hm _ m_k705).1, x_gI, ha, x_aI (by omega) (by rw [(hm _ m_k705).2]; show p < 402; omega), (ht p hp).2.1, x_nn, pM_note1 h, x_c, x_gI]
    show some (g_I u 577 1 - 1, _) = _
    rw [ha]
theorem pM_needS (h : g_I u 833 1 = 1) (c : Int32) : f_M_need (some 1) c u = some (g_I u 577 1 - 1, u) := by
  unfold f_M_need
  rw [x_nn, pM_isS h, x_c, if_pos rfl, x_nn, pM_badS h, x_c, if_neg (by decide)]; rfl
theorem pM_skip (hm : m_Fix u) (ht : z_tkM u n kd pl vl) (hk : ∀ i, kd i < 40) (hn : n ≤ 400) (hp : p ≤ n) (h : g_I u 833 1 = 0) (ha : g_I u 577 1 = Int32.ofNat p) {k : Nat} (hk2 : k < 40) : f_M_skip (some 1) (z_km k) u = if kd p = k then some (1, g_setI u 577 1 (Int32.ofNat (p + 1))) else some (0, u) := by
  unfold f_M_skip
  rw [x_nn, pM_is hm ht hk hn hp h ha hk2]
  by_cases w : kd p = k
  · rw [if_pos w, if_pos w, x_c, x_gI, ha, if_neg (by decide), x_p1]; rfl
  · rw [if_neg w, if_neg w, x_c, x_gI, ha, if_pos rfl]
    show g_rZ 0 (some (0, g_setI u 577 1 (Int32.ofNat p + 0))) = _
    have e : Int32.ofNat p + 0 = Int32.ofNat p := (Int32.ofNat_add p 0).symm
    rw [e, x_setI_same ha]; rfl
theorem pM_skipS (h : g_I u 833 1 = 1) (c : Int32) : f_M_skip (some 1) c u = some (0, u) := by
  unfold f_M_skip
  rw [x_nn, pM_isS h, x_c, x_gI, if_pos rfl]
  show g_rZ 0 (some (0, g_setI u 577 1 (g_I u 577 1 + 0))) = _
  have e : g_I u 577 1 + 0 = g_I u 577 1 := by
    apply Int32.toBitVec.inj
    simp
  rw [e, x_setI_same rfl]; rfl
end
