/-! LISTS -/
def E_li (u : g_St) (l : Nat) (xs : List Nat) : Prop := g_I u 140 l = Int32.ofNat xs.length ∧ ∃ a, g_R u 76 l = some a ∧ ((a = 30 ∧ xs = []) ∨ (a % 64 = 30 ∧ 1 ≤ a / 64 ∧ g_al u a ∧ xs.length ≤ g_ln u a ∧ (10 ≤ g_ln u a ∧ g_ln u a ≤ 2000) ∧ (∀ j, j < xs.length → g_AR u a j = some (xs.getD j 0)) ∧ ∀ j, xs.length ≤ j → g_AR u a j = none))
/-- what is put into lists -/
def E_kl (xs : List Nat) : Prop := ∀ j, j < xs.length → (xs.getD j 0) % 64 = 9 ∨ (xs.getD j 0) % 64 = 11
theorem x_half {n : Nat} (h : n < 2 ^ 31) : Int32.ofNat n >>> (1 &&& 31) = Int32.ofNat (n / 2) := by
  have e : Int32.ofNat n = Int32.ofBitVec (BitVec.ofNat 32 n) := rfl
  apply Int32.toBitVec_inj.mp
  rw [Int32.toBitVec_shiftRight]
  show (BitVec.ofNat 32 n).sshiftRight' ((1 &&& 31 : Int32).toBitVec.smod 32) = BitVec.ofNat 32 (n / 2)
  rw [show ((1 &&& 31 : Int32).toBitVec.smod 32) = 1#32 from by decide]
  unfold BitVec.sshiftRight'
  rw [show (1#32).toNat = 1 from rfl]
  apply BitVec.eq_of_toInt_eq
  rw [BitVec.toInt_sshiftRight, BitVec.toInt_ofNat', BitVec.toInt_ofNat', Int.shiftRight_eq_div_pow]
  have h1 : ((n : Int)).bmod (2 ^ 32) = n := by
    rw [Int.bmod_def]; omega
  have h2 : ((n / 2 : Nat) : Int).bmod (2 ^ 32) = (n / 2 : Nat) := by
    rw [Int.bmod_def]; omega
  rw [h1, h2]
  omega
theorem e_len {a b : Nat} (ha : 10 ≤ a) (hb : a < 2000) (s : g_St) (h : b = a + 1) : f_As_newLength (Int32.ofNat a) (Int32.ofNat b - Int32.ofNat a) (Int32.ofNat a >>> (1 &&& 31)) s = some (Int32.ofNat (a + a / 2), s) := by
  subst h
  unfold f_As_newLength
  rw [x_half (by omega), x_sub (by omega), show a + 1 - a = 1 by omega, if_pos (show Int32.ofNat 1 < Int32.ofNat (a / 2) from by rw [x_lt (by omega) (by omega)]; omega), x_add]
  rw [if_neg (show ¬ Int32.ofNat (a + a / 2) ≤ 0 from by rw [show (0 : Int32) = Int32.ofNat 0 from rfl, x_le (by omega) (by omega)]; omega)]
  rw [if_neg (show ¬ (2147483639 : Int32) < Int32.ofNat (a + a / 2) from by rw [show (2147483639 : Int32) = Int32.ofNat 2147483639 from rfl, x_lt (by omega) (by omega)]; omega)]

theorem x_lenO {α : Type} {u : g_St} {a : Nat} (h : 1 ≤ a / 64) (F : Int32 → Option α) : g_lenO u (some a) F = F (Int32.ofNat (g_ln u a)) := if_neg (by omega)
theorem x_lenO0 {α : Type} {u : g_St} (F : Int32 → Option α) : g_lenO u (some 30) F = F 0 := rfl
theorem x_sO {α : Type} {u : g_St} {a i : Nat} (h0 : 1 ≤ a / 64) (h : i < 2 ^ 31) (h2 : i < g_ln u a) {v : Nat} (hv : v % 64 = 9 ∨ v % 64 = 11) (F : g_St → Option α) : g_sO u (some a) (Int32.ofNat i) (some v) F = F (g_setAR u a i (some v)) := by
  unfold g_sO
  rw [Int32.toNatClampNeg_ofNat_of_lt h]
  refine if_neg (fun w => ?_)
  rcases w with (w | w | w) | w
  · omega
  · rw [Int32.lt_iff_toInt_lt, Int32.toInt_ofNat_of_lt h, Int32.toInt_zero] at w; omega
  · omega
  · unfold g_okO at w
    rcases hv with e | e
    · simp only [] at w; rw [e] at w; exact absurd w (by decide)
    · simp only [] at w; rw [e] at w; exact absurd w (by decide)
/-- what adding to a list leaves as it was -/
def E_ad (l : Nat) (u v : g_St) : Prop := (∀ t, t ≠ 30 → g_cnt v t = g_cnt u t) ∧ g_cnt u 30 ≤ g_cnt v 30 ∧ ∀ b, g_al u b → b ≠ l → g_R u 76 l ≠ some b → E_sm u v b
theorem e_add11 {u : g_St} {l a x : Nat} {xs : List Nat} (h0 : g_R u 76 l = some a) (ha : 1 ≤ a / 64) (ha2 : a % 64 = 30) (hal : g_al u a) (hln : xs.length < g_ln u a) (hl2 : 10 ≤ g_ln u a ∧ g_ln u a ≤ 2000) (h1 : ∀ j, j < xs.length → g_AR u a j = some (xs.getD j 0)) (h2 : ∀ j, xs.length ≤ j → g_AR u a j = none) (hx : x % 64 = 9 ∨ x % 64 = 11) :
    f_Al_add2_11 (some l) (some x) (some a) (Int32.ofNat xs.length) u = some ((), g_setI (g_setAR u a xs.length (some x)) 140 l (Int32.ofNat (xs.length + 1))) ∧ E_li (g_setI (g_setAR u a xs.length (some x)) 140 l (Int32.ofNat (xs.length + 1))) l (xs ++ [x]) := by
  constructor
  · unfold f_Al_add2_11
    rw [x_sO ha (by omega) hln hx, x_p1, x_pI]
  · have len : (xs ++ [x]).length = xs.length + 1 := by rw [List.length_append, List.length_singleton]
    refine ⟨by rw [len, x_I_I, if_pos ⟨rfl, rfl⟩], a, h0, Or.inr ⟨ha2, ha, hal, by rw [len]; exact hln, hl2, fun j hj => ?_, fun j hj => ?_⟩⟩
    · rw [len] at hj
      show g_AR (g_setAR u a xs.length (some x)) a j = _
      rw [x_AR_AR]
      by_cases w : j < xs.length
      · rw [if_neg (fun q => by have := q.2; omega), z_getD_l w]; exact h1 j w
      · have e : j = xs.length := by omega
        rw [if_pos ⟨rfl, e⟩, e, z_getD_e]
    · rw [len] at hj
      show g_AR (g_setAR u a xs.length (some x)) a j = _
      rw [x_AR_AR, if_neg (fun q => by have := q.2; omega)]
      exact h2 j (by omega)
theorem x_AR_cp (u : g_St) (b : Nat) (f : Nat → Option Nat) (x i : Nat) : g_AR (g_cpS u b f) x i = if x = b then f i else g_AR u x i := rfl
theorem E_sm.cp {u v : g_St} {b : Nat} (h : E_sm u v b) {a : Nat} (f : Nat → Option Nat) (ne : b ≠ a) : E_sm u (g_cpS v a f) b := ⟨h.1, h.2.1, h.2.2.1, by rw [show g_AR (g_cpS v a f) b = g_AR v b from funext fun i => by rw [x_AR_cp, if_neg ne]]; exact h.2.2.2.1, h.2.2.2.2⟩
theorem e_add {u : g_St} {l x : Nat} {xs : List Nat} (hl : E_li u l xs) (hk : E_kl xs) (hx : x % 64 = 9 ∨ x % 64 = 11) (h30 : 1 ≤ g_cnt u 30) (hl2 : g_al u l) (hl3 : l % 64 = 12) (hs : xs.length < 500) (c1 : g_cn u < 601024) (c2 : g_sn u + 2 * xs.length + 10 ≤ 7293034) :
    ∃ u', f_Al_add (some l) (some x) u = some (1, u') ∧ E_li u' l (xs ++ [x]) ∧ g_cn u' ≤ g_cn u + 1 ∧ g_sn u' ≤ g_sn u + 2 * xs.length + 10 ∧ E_ad l u u' := by
  obtain ⟨h1, a, h2, h3⟩ := hl
  obtain ⟨s2, e2⟩ : ∃ s2, s2 = g_setI u 12 l (g_I u 12 l + 1) := ⟨_, rfl⟩
  have i2 : g_I s2 140 l = Int32.ofNat xs.length := by rw [e2, x_I_I, if_neg (fun q => by have := q.1; omega)]; exact h1
  have r2 : g_R s2 = g_R u := by rw [e2]; rfl
  have n2 : g_ln s2 = g_ln u := by rw [e2]; rfl
  have ar2 : g_AR s2 = g_AR u := by rw [e2]; rfl
  have ct2 : g_cnt s2 = g_cnt u := by rw [e2]; rfl
  have cn2 : g_cn s2 = g_cn u := by rw [e2]; rfl
  have sn2 : g_sn s2 = g_sn u := by rw [e2]; rfl
  have st : ∀ s6, f_Al_add2 (some l) (some x) (some a) (Int32.ofNat xs.length) s2 = some ((), s6) → f_Al_add (some l) (some x) u = some (1, s6) := by
    intro s6 h6
    unfold f_Al_add
    rw [x_gI, x_pI, ← e2, x_gR, r2, h2, x_gI, i2, x_nn, h6, x_c]
    rfl
  have sm2 : ∀ b, b ≠ l → E_sm u s2 b := fun b hb => by rw [e2]; exact E_sm.re.pI _ _ hb
  -- the new array is there: the rest
  have rest : ∀ s (a' : Nat), g_R s 76 l = some a' → 1 ≤ a' / 64 → a' % 64 = 30 → g_al s a' → xs.length < g_ln s a' → (10 ≤ g_ln s a' ∧ g_ln s a' ≤ 2000) → (∀ j, j < xs.length → g_AR s a' j = some (xs.getD j 0)) → (∀ j, xs.length ≤ j → g_AR s a' j = none) → g_cn s ≤ g_cn u + 1 → g_sn s ≤ g_sn u + 2 * xs.length + 10 → (∀ t, t ≠ 30 → g_cnt s t = g_cnt u t) → g_cnt u 30 ≤ g_cnt s 30 → (∀ b, g_al u b → b ≠ l → g_R u 76 l ≠ some b → E_sm u s b ∧ b ≠ a') → f_Al_add2 (some l) (some x) (some a) (Int32.ofNat xs.length) s2 = f_Al_add2_11 (some l) (some x) (some a') (Int32.ofNat xs.length) s →
      ∃ u', f_Al_add (some l) (some x) u = some (1, u') ∧ E_li u' l (xs ++ [x]) ∧ g_cn u' ≤ g_cn u + 1 ∧ g_sn u' ≤ g_sn u + 2 * xs.length + 10 ∧ E_ad l u u' := by
    intro s a' p1 p2 p3 p4 p5 p6 p7 p8 p9 p10 p11 p12 p13 p14
    obtain ⟨q1, q2⟩ := e_add11 p1 p2 p3 p4 p5 p6 p7 p8 hx
    refine ⟨_, st _ (p14.trans q1), q2, p9, p10, p11, p12, fun b b1 b2 b3 => ?_⟩
    exact ((p13 b b1 b2 b3).1.sR _ _ (p13 b b1 b2 b3).2).pI _ _ b2
  have new30 : ∀ (n m : Nat), (∀ t, t ≠ 30 → g_cnt (g_mk s2 30 n m) t = g_cnt u t) ∧ g_cnt u 30 ≤ g_cnt (g_mk s2 30 n m) 30 := fun n m => ⟨fun t ht => by rw [x_cnt_mk, if_neg ht, ct2], by rw [x_cnt_mk, if_pos rfl, ct2]; omega⟩
  have anew : (g_cnt s2 30 * 64 + 30) / 64 = g_cnt u 30 ∧ (g_cnt s2 30 * 64 + 30) % 64 = 30 := by rw [ct2]; exact E_num (by decide)
  have nnew : ∀ b, g_al u b → b ≠ g_cnt s2 30 * 64 + 30 := fun b hb e => by
    rw [ct2] at e
    exact E_nal (u := u) (t := 30) (by decide) (e ▸ hb)
  have lne : l ≠ g_cnt s2 30 * 64 + 30 := nnew l hl2
  rcases h3 with ⟨h3, h4⟩ | ⟨h3, h4, h5, h6, h7, h8, h9⟩
  · -- the first
    subst h4
    subst h3
    refine rest (g_setR (g_mk s2 30 10 10) 76 l (some (g_cnt s2 30 * 64 + 30))) (g_cnt s2 30 * 64 + 30) (by rw [x_R_R, if_pos ⟨rfl, rfl⟩]) (by omega) anew.2 ?_ ?_ ?_ (fun j hj => by cases hj) (fun j hj => ?_) ?_ ?_ (new30 10 10).1 (new30 10 10).2 (fun b b1 b2 b3 => ⟨?_, nnew b b1⟩) ?_
    · show (g_cnt s2 30 * 64 + 30) / 64 < g_cnt (g_mk s2 30 10 10) ((g_cnt s2 30 * 64 + 30) % 64)
      rw [anew.1, anew.2, x_cnt_mk, if_pos rfl, ct2]; omega
    · rw [x_ln_R, x_ln_mk, if_pos rfl]; decide
    · rw [x_ln_R, x_ln_mk, if_pos rfl]; decide
    · rw [x_AR_R, x_AR_mk, if_pos rfl]
    · show g_cn s2 + 1 ≤ _; omega
    · show g_sn s2 + 10 ≤ _; omega
    · exact ((sm2 b b2).mk 30 10 10 (nnew b b1)).pR _ _ b2
    · unfold f_Al_add2
      rw [x_lenO0, if_pos (show Int32.ofNat ([] : List Nat).length = 0 from rfl), x_nn]
      unfold f_Al_grow
      rw [x_gI, i2, x_nn]
      unfold f_Al_grow2
      rw [x_gR, r2, h2, x_lenO0, if_neg (by decide), x_gR, r2, h2, if_pos rfl]
      rw [show (if (10 : Int32) < Int32.ofNat ([] : List Nat).length + 1 then Int32.ofNat ([] : List Nat).length + 1 else 10) = Int32.ofNat 10 from by decide, x_newA (by decide) (by rw [cn2]; exact c1) (by rw [sn2]; omega), x_pR, x_c, x_c]
  · by_cases w : xs.length = g_ln u a
    · -- it grows
      have le10 := h7.1
      · have hn : xs.length + xs.length / 2 ≤ 2 * xs.length := by omega
        have hall : ((List.range xs.length).all fun i => g_okO (g_AR (g_mk s2 30 (xs.length + xs.length / 2) (xs.length + xs.length / 2)) a i)) = true := List.all_eq_true.mpr (fun i hi => by
          have hi' : i < xs.length := List.mem_range.mp hi
          rw [x_AR_mk, if_neg (nnew a h5), ar2, h8 i hi']
          unfold g_okO
          rcases hk i hi' with e | e
          · simp only []; rw [e]; rfl
          · simp only []; rw [e]; rfl)
        refine rest (g_setR (g_cpS (g_mk s2 30 (xs.length + xs.length / 2) (xs.length + xs.length / 2)) (g_cnt s2 30 * 64 + 30) (fun i => if i < xs.length then g_AR (g_mk s2 30 (xs.length + xs.length / 2) (xs.length + xs.length / 2)) a i else g_AR (g_mk s2 30 (xs.length + xs.length / 2) (xs.length + xs.length / 2)) (g_cnt s2 30 * 64 + 30) i)) 76 l (some (g_cnt s2 30 * 64 + 30))) (g_cnt s2 30 * 64 + 30) (by rw [x_R_R, if_pos ⟨rfl, rfl⟩]) (by omega) anew.2 ?_ ?_ ?_ (fun j hj => ?_) (fun j hj => ?_) ?_ ?_ (new30 (xs.length + xs.length / 2) (xs.length + xs.length / 2)).1 (new30 (xs.length + xs.length / 2) (xs.length + xs.length / 2)).2 (fun b b1 b2 b3 => ⟨?_, nnew b b1⟩) ?_
        · show (g_cnt s2 30 * 64 + 30) / 64 < g_cnt (g_mk s2 30 0 0) ((g_cnt s2 30 * 64 + 30) % 64)
          rw [anew.1, anew.2, x_cnt_mk, if_pos rfl, ct2]; omega
        · show _ < g_ln (g_mk s2 30 (xs.length + xs.length / 2) (xs.length + xs.length / 2)) _
          rw [x_ln_mk, if_pos rfl]; omega
        · show 10 ≤ g_ln (g_mk s2 30 (xs.length + xs.length / 2) (xs.length + xs.length / 2)) _ ∧ g_ln (g_mk s2 30 (xs.length + xs.length / 2) (xs.length + xs.length / 2)) _ ≤ _
          rw [x_ln_mk, if_pos rfl]; omega
        · rw [x_AR_R, x_AR_cp, if_pos rfl, if_pos hj, x_AR_mk, if_neg (nnew a h5), ar2]; exact h8 j hj
        · rw [x_AR_R, x_AR_cp, if_pos rfl, if_neg (by omega), x_AR_mk, if_pos rfl]
        · show g_cn s2 + 1 ≤ _; omega
        · show g_sn s2 + (xs.length + xs.length / 2) ≤ _; omega
        · exact (((sm2 b b2).mk 30 _ _ (nnew b b1)).cp _ (nnew b b1)).pR _ _ b2
        · unfold f_Al_add2
          rw [x_lenO h4, n2, ← w, if_pos rfl, x_nn]
          unfold f_Al_grow
          rw [x_gI, i2, x_nn]
          unfold f_Al_grow2
          rw [x_gR, r2, h2, x_lenO h4, n2, ← w, if_pos (show (0 : Int32) < Int32.ofNat xs.length from by rw [show (0 : Int32) = Int32.ofNat 0 from rfl, x_lt (by decide) (by omega)]; omega)]
          unfold f_Al_grow2_20
          rw [x_p1, e_len (by omega) (by omega) s2 rfl, x_c, x_gR, r2, h2]
          unfold f_Ars_copyOf
          simp only []
          rw [if_neg (by omega)]
          unfold f_Ars_copyOf2
          rw [x_newA (by omega) (by rw [cn2]; exact c1) (by rw [sn2]; omega), x_lenO h4, x_ln_mk, if_neg (nnew a h5), n2, ← w, if_neg (show ¬ Int32.ofNat (xs.length + xs.length / 2) < Int32.ofNat xs.length from by rw [x_lt (by omega) (by omega)]; omega)]
          unfold g_cpO
          simp only []
          rw [Int32.toNatClampNeg_ofNat_of_lt (show xs.length < 2 ^ 31 by omega)]
          rw [if_pos ⟨⟨h4, by rw [anew.1]; exact h30⟩, ⟨fun q => by rw [Int32.lt_iff_toInt_lt, Int32.toInt_ofNat_of_lt (by omega), Int32.toInt_zero] at q; omega, by rw [x_ln_mk, if_neg (nnew a h5), n2]; omega, by rw [x_ln_mk, if_pos rfl]; omega⟩, hall⟩, x_c, x_pR, x_c, x_c]
    · refine rest s2 a (by rw [r2]; exact h2) h4 h3 (by show _ < g_cnt s2 _; rw [ct2]; exact h5) (by rw [n2]; omega) (by rw [n2]; exact h7) (fun j hj => by rw [ar2]; exact h8 j hj) (fun j hj => by rw [ar2]; exact h9 j hj) (by omega) (by omega) (fun t _ => by rw [ct2]) (by rw [ct2]; exact Nat.le_refl _) (fun b b1 b2 b3 => ⟨sm2 b b2, fun e => b3 (by rw [e]; exact h2)⟩) ?_
      unfold f_Al_add2
      rw [x_lenO h4, n2, if_neg (by rw [x_eq (by omega) (by omega)]; exact w)]
