/-! THE PURE LAYER: reading and writing the model, its steps, numbers -/
theorem x_cnt_I (u : g_St) (k' a' : Nat) (v : Int32) : g_cnt (g_setI u k' a' v) = g_cnt u := rfl
theorem x_cnt_L (u : g_St) (k' a' : Nat) (v : Int64) : g_cnt (g_setL u k' a' v) = g_cnt u := rfl
theorem x_cnt_R (u : g_St) (k' a' : Nat) (v : Option Nat) : g_cnt (g_setR u k' a' v) = g_cnt u := rfl
theorem x_cnt_AI (u : g_St) (k' a' : Nat) (v : Int32) : g_cnt (g_setAI u k' a' v) = g_cnt u := rfl
theorem x_cnt_AL (u : g_St) (k' a' : Nat) (v : Int64) : g_cnt (g_setAL u k' a' v) = g_cnt u := rfl
theorem x_cnt_AR (u : g_St) (k' a' : Nat) (v : Option Nat) : g_cnt (g_setAR u k' a' v) = g_cnt u := rfl
theorem x_cnt_mk (u : g_St) (t n m t' : Nat) : g_cnt (g_mk u t n m) t' = if t' = t then g_cnt u t + 1 else g_cnt u t' := rfl
theorem x_cnt_bump (u : g_St) (c n : Nat) : g_cnt (g_bump u c n) = g_cnt u := rfl
theorem x_cn_I (u : g_St) (k' a' : Nat) (v : Int32) : g_cn (g_setI u k' a' v) = g_cn u := rfl
theorem x_cn_L (u : g_St) (k' a' : Nat) (v : Int64) : g_cn (g_setL u k' a' v) = g_cn u := rfl
theorem x_cn_R (u : g_St) (k' a' : Nat) (v : Option Nat) : g_cn (g_setR u k' a' v) = g_cn u := rfl
theorem x_cn_AI (u : g_St) (k' a' : Nat) (v : Int32) : g_cn (g_setAI u k' a' v) = g_cn u := rfl
theorem x_cn_AL (u : g_St) (k' a' : Nat) (v : Int64) : g_cn (g_setAL u k' a' v) = g_cn u := rfl
theorem x_cn_AR (u : g_St) (k' a' : Nat) (v : Option Nat) : g_cn (g_setAR u k' a' v) = g_cn u := rfl
theorem x_cn_mk (u : g_St) (t n m : Nat) : g_cn (g_mk u t n m) = g_cn u + 1 := rfl
theorem x_cn_bump (u : g_St) (c n : Nat) : g_cn (g_bump u c n) = g_cn u + c := rfl
theorem x_sn_I (u : g_St) (k' a' : Nat) (v : Int32) : g_sn (g_setI u k' a' v) = g_sn u := rfl
theorem x_sn_L (u : g_St) (k' a' : Nat) (v : Int64) : g_sn (g_setL u k' a' v) = g_sn u := rfl
theorem x_sn_R (u : g_St) (k' a' : Nat) (v : Option Nat) : g_sn (g_setR u k' a' v) = g_sn u := rfl
theorem x_sn_AI (u : g_St) (k' a' : Nat) (v : Int32) : g_sn (g_setAI u k' a' v) = g_sn u := rfl
theorem x_sn_AL (u : g_St) (k' a' : Nat) (v : Int64) : g_sn (g_setAL u k' a' v) = g_sn u := rfl
theorem x_sn_AR (u : g_St) (k' a' : Nat) (v : Option Nat) : g_sn (g_setAR u k' a' v) = g_sn u := rfl
theorem x_sn_mk (u : g_St) (t n m : Nat) : g_sn (g_mk u t n m) = g_sn u + n := rfl
theorem x_sn_bump (u : g_St) (c n : Nat) : g_sn (g_bump u c n) = g_sn u + n := rfl
theorem x_I_I (u : g_St) (k a k' a' : Nat) (v : Int32) : g_I (g_setI u k' a' v) k a = if k = k' ∧ a = a' then v else g_I u k a := rfl
theorem x_I_L (u : g_St) (k' a' : Nat) (v : Int64) : g_I (g_setL u k' a' v) = g_I u := rfl
theorem x_I_R (u : g_St) (k' a' : Nat) (v : Option Nat) : g_I (g_setR u k' a' v) = g_I u := rfl
theorem x_I_AI (u : g_St) (k' a' : Nat) (v : Int32) : g_I (g_setAI u k' a' v) = g_I u := rfl
theorem x_I_AL (u : g_St) (k' a' : Nat) (v : Int64) : g_I (g_setAL u k' a' v) = g_I u := rfl
theorem x_I_AR (u : g_St) (k' a' : Nat) (v : Option Nat) : g_I (g_setAR u k' a' v) = g_I u := rfl
theorem x_I_mk (u : g_St) (t n m k a : Nat) : g_I (g_mk u t n m) k a = if a = g_cnt u t * 64 + t then 0 else g_I u k a := rfl
theorem x_I_bump (u : g_St) (c n : Nat) : g_I (g_bump u c n) = g_I u := rfl
theorem x_L_I (u : g_St) (k' a' : Nat) (v : Int32) : g_L (g_setI u k' a' v) = g_L u := rfl
theorem x_L_L (u : g_St) (k a k' a' : Nat) (v : Int64) : g_L (g_setL u k' a' v) k a = if k = k' ∧ a = a' then v else g_L u k a := rfl
theorem x_L_R (u : g_St) (k' a' : Nat) (v : Option Nat) : g_L (g_setR u k' a' v) = g_L u := rfl
theorem x_L_AI (u : g_St) (k' a' : Nat) (v : Int32) : g_L (g_setAI u k' a' v) = g_L u := rfl
theorem x_L_AL (u : g_St) (k' a' : Nat) (v : Int64) : g_L (g_setAL u k' a' v) = g_L u := rfl
theorem x_L_AR (u : g_St) (k' a' : Nat) (v : Option Nat) : g_L (g_setAR u k' a' v) = g_L u := rfl
theorem x_L_mk (u : g_St) (t n m k a : Nat) : g_L (g_mk u t n m) k a = if a = g_cnt u t * 64 + t then 0 else g_L u k a := rfl
theorem x_L_bump (u : g_St) (c n : Nat) : g_L (g_bump u c n) = g_L u := rfl
theorem x_R_I (u : g_St) (k' a' : Nat) (v : Int32) : g_R (g_setI u k' a' v) = g_R u := rfl
theorem x_R_L (u : g_St) (k' a' : Nat) (v : Int64) : g_R (g_setL u k' a' v) = g_R u := rfl
theorem x_R_R (u : g_St) (k a k' a' : Nat) (v : Option Nat) : g_R (g_setR u k' a' v) k a = if k = k' ∧ a = a' then v else g_R u k a := rfl
theorem x_R_AI (u : g_St) (k' a' : Nat) (v : Int32) : g_R (g_setAI u k' a' v) = g_R u := rfl
theorem x_R_AL (u : g_St) (k' a' : Nat) (v : Int64) : g_R (g_setAL u k' a' v) = g_R u := rfl
theorem x_R_AR (u : g_St) (k' a' : Nat) (v : Option Nat) : g_R (g_setAR u k' a' v) = g_R u := rfl
theorem x_R_mk (u : g_St) (t n m k a : Nat) : g_R (g_mk u t n m) k a = if a = g_cnt u t * 64 + t then none else g_R u k a := rfl
theorem x_R_bump (u : g_St) (c n : Nat) : g_R (g_bump u c n) = g_R u := rfl
theorem x_AI_I (u : g_St) (k' a' : Nat) (v : Int32) : g_AI (g_setI u k' a' v) = g_AI u := rfl
theorem x_AI_L (u : g_St) (k' a' : Nat) (v : Int64) : g_AI (g_setL u k' a' v) = g_AI u := rfl
theorem x_AI_R (u : g_St) (k' a' : Nat) (v : Option Nat) : g_AI (g_setR u k' a' v) = g_AI u := rfl
theorem x_AI_AI (u : g_St) (k a k' a' : Nat) (v : Int32) : g_AI (g_setAI u k' a' v) k a = if k = k' ∧ a = a' then v else g_AI u k a := rfl
theorem x_AI_AL (u : g_St) (k' a' : Nat) (v : Int64) : g_AI (g_setAL u k' a' v) = g_AI u := rfl
theorem x_AI_AR (u : g_St) (k' a' : Nat) (v : Option Nat) : g_AI (g_setAR u k' a' v) = g_AI u := rfl
theorem x_AI_mk (u : g_St) (t n m k a : Nat) : g_AI (g_mk u t n m) k a = if k = g_cnt u t * 64 + t then 0 else g_AI u k a := rfl
theorem x_AI_bump (u : g_St) (c n : Nat) : g_AI (g_bump u c n) = g_AI u := rfl
theorem x_AL_I (u : g_St) (k' a' : Nat) (v : Int32) : g_AL (g_setI u k' a' v) = g_AL u := rfl
theorem x_AL_L (u : g_St) (k' a' : Nat) (v : Int64) : g_AL (g_setL u k' a' v) = g_AL u := rfl
theorem x_AL_R (u : g_St) (k' a' : Nat) (v : Option Nat) : g_AL (g_setR u k' a' v) = g_AL u := rfl
theorem x_AL_AI (u : g_St) (k' a' : Nat) (v : Int32) : g_AL (g_setAI u k' a' v) = g_AL u := rfl
theorem x_AL_AL (u : g_St) (k a k' a' : Nat) (v : Int64) : g_AL (g_setAL u k' a' v) k a = if k = k' ∧ a = a' then v else g_AL u k a := rfl
theorem x_AL_AR (u : g_St) (k' a' : Nat) (v : Option Nat) : g_AL (g_setAR u k' a' v) = g_AL u := rfl
theorem x_AL_mk (u : g_St) (t n m k a : Nat) : g_AL (g_mk u t n m) k a = if k = g_cnt u t * 64 + t then 0 else g_AL u k a := rfl
theorem x_AL_bump (u : g_St) (c n : Nat) : g_AL (g_bump u c n) = g_AL u := rfl
theorem x_AR_I (u : g_St) (k' a' : Nat) (v : Int32) : g_AR (g_setI u k' a' v) = g_AR u := rfl
theorem x_AR_L (u : g_St) (k' a' : Nat) (v : Int64) : g_AR (g_setL u k' a' v) = g_AR u := rfl
theorem x_AR_R (u : g_St) (k' a' : Nat) (v : Option Nat) : g_AR (g_setR u k' a' v) = g_AR u := rfl
theorem x_AR_AI (u : g_St) (k' a' : Nat) (v : Int32) : g_AR (g_setAI u k' a' v) = g_AR u := rfl
theorem x_AR_AL (u : g_St) (k' a' : Nat) (v : Int64) : g_AR (g_setAL u k' a' v) = g_AR u := rfl
theorem x_AR_AR (u : g_St) (k a k' a' : Nat) (v : Option Nat) : g_AR (g_setAR u k' a' v) k a = if k = k' ∧ a = a' then v else g_AR u k a := rfl
theorem x_AR_mk (u : g_St) (t n m k a : Nat) : g_AR (g_mk u t n m) k a = if k = g_cnt u t * 64 + t then none else g_AR u k a := rfl
theorem x_AR_bump (u : g_St) (c n : Nat) : g_AR (g_bump u c n) = g_AR u := rfl
theorem x_ln_I (u : g_St) (k' a' : Nat) (v : Int32) : g_ln (g_setI u k' a' v) = g_ln u := rfl
theorem x_ln_L (u : g_St) (k' a' : Nat) (v : Int64) : g_ln (g_setL u k' a' v) = g_ln u := rfl
theorem x_ln_R (u : g_St) (k' a' : Nat) (v : Option Nat) : g_ln (g_setR u k' a' v) = g_ln u := rfl
theorem x_ln_AI (u : g_St) (k' a' : Nat) (v : Int32) : g_ln (g_setAI u k' a' v) = g_ln u := rfl
theorem x_ln_AL (u : g_St) (k' a' : Nat) (v : Int64) : g_ln (g_setAL u k' a' v) = g_ln u := rfl
theorem x_ln_AR (u : g_St) (k' a' : Nat) (v : Option Nat) : g_ln (g_setAR u k' a' v) = g_ln u := rfl
theorem x_ln_mk (u : g_St) (t n m a : Nat) : g_ln (g_mk u t n m) a = if a = g_cnt u t * 64 + t then m else g_ln u a := rfl
theorem x_ln_bump (u : g_St) (c n : Nat) : g_ln (g_bump u c n) = g_ln u := rfl
theorem x_gI {α : Type} (u : g_St) (k a : Nat) (F : Int32 → Option α) : g_gI u k (some a) F = F (g_I u k a) := rfl
theorem x_pI {α : Type} (u : g_St) (k a : Nat) (v : Int32) (F : g_St → Option α) : g_pI u k (some a) v F = F (g_setI u k a v) := rfl
theorem x_aI {α : Type} {u : g_St} {a i : Nat} (h : i < 2 ^ 31) (h2 : i < g_ln u a) (F : Int32 → Option α) : g_aI u (some a) (Int32.ofNat i) F = F (g_AI u a i) := by
  unfold g_aI
  rw [Int32.toNatClampNeg_ofNat_of_lt h]
  exact if_neg (fun w => w.elim (fun q => by rw [Int32.lt_iff_toInt_lt, Int32.toInt_ofNat_of_lt h, Int32.toInt_zero] at q; omega) (fun q => absurd h2 (Nat.not_lt.mpr q)))
theorem x_sI {α : Type} {u : g_St} {a i : Nat} (h : i < 2 ^ 31) (h2 : i < g_ln u a) (v : Int32) (F : g_St → Option α) : g_sI u (some a) (Int32.ofNat i) v F = F (g_setAI u a i v) := by
  unfold g_sI
  rw [Int32.toNatClampNeg_ofNat_of_lt h]
  exact if_neg (fun w => w.elim (fun q => by rw [Int32.lt_iff_toInt_lt, Int32.toInt_ofNat_of_lt h, Int32.toInt_zero] at q; omega) (fun q => absurd h2 (Nat.not_lt.mpr q)))
theorem x_gL {α : Type} (u : g_St) (k a : Nat) (F : Int64 → Option α) : g_gL u k (some a) F = F (g_L u k a) := rfl
theorem x_pL {α : Type} (u : g_St) (k a : Nat) (v : Int64) (F : g_St → Option α) : g_pL u k (some a) v F = F (g_setL u k a v) := rfl
theorem x_aL {α : Type} {u : g_St} {a i : Nat} (h : i < 2 ^ 31) (h2 : i < g_ln u a) (F : Int64 → Option α) : g_aL u (some a) (Int32.ofNat i) F = F (g_AL u a i) := by
  unfold g_aL
  rw [Int32.toNatClampNeg_ofNat_of_lt h]
  exact if_neg (fun w => w.elim (fun q => by rw [Int32.lt_iff_toInt_lt, Int32.toInt_ofNat_of_lt h, Int32.toInt_zero] at q; omega) (fun q => absurd h2 (Nat.not_lt.mpr q)))
theorem x_sL {α : Type} {u : g_St} {a i : Nat} (h : i < 2 ^ 31) (h2 : i < g_ln u a) (v : Int64) (F : g_St → Option α) : g_sL u (some a) (Int32.ofNat i) v F = F (g_setAL u a i v) := by
  unfold g_sL
  rw [Int32.toNatClampNeg_ofNat_of_lt h]
  exact if_neg (fun w => w.elim (fun q => by rw [Int32.lt_iff_toInt_lt, Int32.toInt_ofNat_of_lt h, Int32.toInt_zero] at q; omega) (fun q => absurd h2 (Nat.not_lt.mpr q)))
theorem x_gR {α : Type} (u : g_St) (k a : Nat) (F : Option Nat → Option α) : g_gR u k (some a) F = F (g_R u k a) := rfl
theorem x_pR {α : Type} (u : g_St) (k a : Nat) (v : Option Nat) (F : g_St → Option α) : g_pR u k (some a) v F = F (g_setR u k a v) := rfl
theorem x_aR {α : Type} {u : g_St} {a i : Nat} (h : i < 2 ^ 31) (h2 : i < g_ln u a) (F : Option Nat → Option α) : g_aR u (some a) (Int32.ofNat i) F = F (g_AR u a i) := by
  unfold g_aR
  rw [Int32.toNatClampNeg_ofNat_of_lt h]
  exact if_neg (fun w => w.elim (fun q => by rw [Int32.lt_iff_toInt_lt, Int32.toInt_ofNat_of_lt h, Int32.toInt_zero] at q; omega) (fun q => absurd h2 (Nat.not_lt.mpr q)))
theorem x_sR {α : Type} {u : g_St} {a i : Nat} (h : i < 2 ^ 31) (h2 : i < g_ln u a) (v : Option Nat) (F : g_St → Option α) : g_sR u (some a) (Int32.ofNat i) v F = F (g_setAR u a i v) := by
  unfold g_sR
  rw [Int32.toNatClampNeg_ofNat_of_lt h]
  exact if_neg (fun w => w.elim (fun q => by rw [Int32.lt_iff_toInt_lt, Int32.toInt_ofNat_of_lt h, Int32.toInt_zero] at q; omega) (fun q => absurd h2 (Nat.not_lt.mpr q)))
theorem x_len {α : Type} (u : g_St) (a : Nat) (F : Int32 → Option α) : g_len u (some a) F = F (Int32.ofNat (g_ln u a)) := rfl
theorem x_c {α β : Type} (v : α) (u : g_St) (F : α → g_St → Option β) : g_c (some (v, u)) F = F v u := rfl
theorem x_nn {α : Type} (a : Nat) (x : Option α) : g_nn (some a) x = x := rfl
theorem x_cTi {α β : Type} (v : α) (u : g_St) (F : α → g_St → Option ((β ⊕ Nat) × g_St)) : g_cT (some (.inl v, u)) F = F v u := rfl
theorem x_cTr {α β : Type} (e : Nat) (u : g_St) (F : α → g_St → Option ((β ⊕ Nat) × g_St)) : g_cT (some (.inr e, u)) F = some (.inr e, u) := rfl
theorem x_castS {α : Type} {t a : Nat} (h : a % 64 = t) (F : Option α) : g_cast t (some a) F = F := if_pos h
theorem x_castN {α : Type} (t : Nat) (F : Option α) : g_cast t none F = F := rfl
theorem x_LC : g_LC = 601024 := rfl
theorem x_LS : g_LS = 7293034 := rfl
theorem x_new {α : Type} {u : g_St} {t n : Nat} (h1 : g_cn u < 601024) (h2 : g_sn u + n ≤ 7293034) (F : Option Nat → g_St → Option α) : g_new u t n F = F (some (g_cnt u t * 64 + t)) (g_mk u t n 0) := if_pos ⟨h1, h2⟩
theorem x_newA {α : Type} {u : g_St} {t n : Nat} (h : n ≤ 65536) (h1 : g_cn u < 601024) (h2 : g_sn u + n ≤ 7293034) (F : Option Nat → g_St → Option α) : g_newA u t (Int32.ofNat n) F = F (some (g_cnt u t * 64 + t)) (g_mk u t n n) := by
  unfold g_newA
  have e : (Int32.ofNat n).toNatClampNeg = n := Int32.toNatClampNeg_ofNat_of_lt (by omega)
  rw [e]
  exact if_pos ⟨⟨fun q => by rw [Int32.lt_iff_toInt_lt, Int32.toInt_ofNat_of_lt (by omega), Int32.toInt_zero] at q; omega, h⟩, h1, h2⟩
theorem x_thr {α : Type} {u : g_St} {e : Nat} (h1 : g_cn u + 8 ≤ 601024) (h2 : g_sn u + 512 ≤ 7293034) : g_thr (α := α) u e = some (.inr e, g_bump u 8 512) := if_pos ⟨h1, h2⟩
theorem x_lt {a b : Nat} (ha : a < 2 ^ 31) (hb : b < 2 ^ 31) : (Int32.ofNat a < Int32.ofNat b) = (a < b) := propext (Int32.ofNat_lt_iff_lt ha hb)
theorem x_le {a b : Nat} (ha : a < 2 ^ 31) (hb : b < 2 ^ 31) : (Int32.ofNat a ≤ Int32.ofNat b) = (a ≤ b) := propext (Int32.ofNat_le_iff_le ha hb)
theorem x_eq {a b : Nat} (ha : a < 2 ^ 31) (hb : b < 2 ^ 31) : (Int32.ofNat a = Int32.ofNat b) = (a = b) := propext ⟨fun h => by
  have := congrArg Int32.toInt h
  rw [Int32.toInt_ofNat_of_lt ha, Int32.toInt_ofNat_of_lt hb] at this
  omega, fun h => by rw [h]⟩
theorem x_add (a b : Nat) : Int32.ofNat a + Int32.ofNat b = Int32.ofNat (a + b) := (Int32.ofNat_add a b).symm
theorem x_mul (a b : Nat) : Int32.ofNat a * Int32.ofNat b = Int32.ofNat (a * b) := (Int32.ofNat_mul a b).symm
theorem x_sub {a b : Nat} (h : b ≤ a) : Int32.ofNat a - Int32.ofNat b = Int32.ofNat (a - b) := (Int32.ofNat_sub a b h).symm
theorem l_0 : (0 : Int32) = Int32.ofNat 0 := rfl
theorem l_1 : (1 : Int32) = Int32.ofNat 1 := rfl
theorem l_2 : (2 : Int32) = Int32.ofNat 2 := rfl
theorem l_3 : (3 : Int32) = Int32.ofNat 3 := rfl
theorem l_4 : (4 : Int32) = Int32.ofNat 4 := rfl
theorem l_5 : (5 : Int32) = Int32.ofNat 5 := rfl
theorem l_6 : (6 : Int32) = Int32.ofNat 6 := rfl
theorem l_7 : (7 : Int32) = Int32.ofNat 7 := rfl
theorem l_8 : (8 : Int32) = Int32.ofNat 8 := rfl
theorem l_9 : (9 : Int32) = Int32.ofNat 9 := rfl
theorem l_10 : (10 : Int32) = Int32.ofNat 10 := rfl
theorem l_11 : (11 : Int32) = Int32.ofNat 11 := rfl
theorem l_12 : (12 : Int32) = Int32.ofNat 12 := rfl
theorem l_13 : (13 : Int32) = Int32.ofNat 13 := rfl
theorem l_14 : (14 : Int32) = Int32.ofNat 14 := rfl
theorem l_15 : (15 : Int32) = Int32.ofNat 15 := rfl
theorem l_16 : (16 : Int32) = Int32.ofNat 16 := rfl
theorem l_17 : (17 : Int32) = Int32.ofNat 17 := rfl
theorem l_18 : (18 : Int32) = Int32.ofNat 18 := rfl
theorem l_19 : (19 : Int32) = Int32.ofNat 19 := rfl
theorem l_20 : (20 : Int32) = Int32.ofNat 20 := rfl
theorem l_21 : (21 : Int32) = Int32.ofNat 21 := rfl
theorem l_22 : (22 : Int32) = Int32.ofNat 22 := rfl
theorem l_23 : (23 : Int32) = Int32.ofNat 23 := rfl
theorem l_24 : (24 : Int32) = Int32.ofNat 24 := rfl
theorem l_25 : (25 : Int32) = Int32.ofNat 25 := rfl
theorem l_26 : (26 : Int32) = Int32.ofNat 26 := rfl
theorem l_27 : (27 : Int32) = Int32.ofNat 27 := rfl
theorem l_30 : (30 : Int32) = Int32.ofNat 30 := rfl
theorem l_31 : (31 : Int32) = Int32.ofNat 31 := rfl
theorem l_32 : (32 : Int32) = Int32.ofNat 32 := rfl
theorem l_40 : (40 : Int32) = Int32.ofNat 40 := rfl
theorem l_41 : (41 : Int32) = Int32.ofNat 41 := rfl
theorem l_42 : (42 : Int32) = Int32.ofNat 42 := rfl
theorem l_43 : (43 : Int32) = Int32.ofNat 43 := rfl
theorem l_44 : (44 : Int32) = Int32.ofNat 44 := rfl
theorem l_45 : (45 : Int32) = Int32.ofNat 45 := rfl
theorem l_46 : (46 : Int32) = Int32.ofNat 46 := rfl
theorem l_48 : (48 : Int32) = Int32.ofNat 48 := rfl
theorem l_49 : (49 : Int32) = Int32.ofNat 49 := rfl
theorem l_50 : (50 : Int32) = Int32.ofNat 50 := rfl
theorem l_60 : (60 : Int32) = Int32.ofNat 60 := rfl
theorem l_61 : (61 : Int32) = Int32.ofNat 61 := rfl
theorem l_62 : (62 : Int32) = Int32.ofNat 62 := rfl
theorem l_64 : (64 : Int32) = Int32.ofNat 64 := rfl
theorem l_99 : (99 : Int32) = Int32.ofNat 99 := rfl
theorem l_100 : (100 : Int32) = Int32.ofNat 100 := rfl
theorem l_146 : (146 : Int32) = Int32.ofNat 146 := rfl
theorem l_400 : (400 : Int32) = Int32.ofNat 400 := rfl
theorem l_401 : (401 : Int32) = Int32.ofNat 401 := rfl
theorem l_402 : (402 : Int32) = Int32.ofNat 402 := rfl
