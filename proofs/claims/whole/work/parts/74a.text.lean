/-! TEXT: the bytes of five numbers -/
def z_b (x : Int32) (sh : Nat) : Nat := x.toBitVec.toNat / 2 ^ sh % 256
theorem z_b_lt (x : Int32) (sh : Nat) : z_b x sh < 256 := Nat.mod_lt _ (by decide)
theorem z_and31 : ∀ sh, sh < 32 → sh &&& 31 = sh := fun sh h => by
  have : sh &&& (2 ^ 5 - 1) = sh % 2 ^ 5 := Nat.and_two_pow_sub_one_eq_mod sh 5
  rw [show (31 : Nat) = 2 ^ 5 - 1 from rfl, this]
  exact Nat.mod_eq_of_lt h
theorem z_bE (x : Int32) {sh : Nat} (h : sh < 32) : ((x.toUInt32 >>> ((Int32.ofNat sh).toUInt32 &&& Int32.toUInt32 31)).toInt32 &&& 255) = Int32.ofNat (z_b x sh) := by
  apply Int32.toBitVec.inj
  apply BitVec.eq_of_toNat_eq
  have e : ∀ n : Nat, n &&& 255 = n % 256 := fun n => Nat.and_two_pow_sub_one_eq_mod n 8
  have e3 : sh % 4294967296 = sh := Nat.mod_eq_of_lt (by omega)
  have e4 : sh % 32 = sh := Nat.mod_eq_of_lt h
  have lt : x.toBitVec.toNat / 2 ^ sh % 256 % 4294967296 = x.toBitVec.toNat / 2 ^ sh % 256 := Nat.mod_eq_of_lt (Nat.lt_trans (Nat.mod_lt _ (by decide)) (by decide))
  simp [z_b, e, z_and31 sh h, e3, e4, Nat.shiftRight_eq_div_pow, lt]
theorem z_bv (v : BitVec 32) (sh : Nat) (h : sh ≤ 24) : (v.sshiftRight sh &&& 255#32) = (v >>> sh &&& 255#32) := by
  apply BitVec.eq_of_getLsbD_eq
  intro i hi
  rw [BitVec.getLsbD_and, BitVec.getLsbD_and, BitVec.getLsbD_sshiftRight, BitVec.getLsbD_ushiftRight]
  by_cases h8 : i < 8
  · have h1 : ¬ 32 ≤ i := by omega
    have h2 : sh + i < 32 := by omega
    simp [h1, h2]
  · have h3 : (255#32).getLsbD i = false := by
      rw [BitVec.getLsbD_ofNat]
      have h4 : (255 : Nat).testBit i = false := by
        rw [show (255 : Nat) = 2 ^ 8 - 1 from rfl, Nat.testBit_two_pow_sub_one]
        simp
        omega
      simp [h4]
    rw [h3]
    simp
theorem z_bM (x : Int32) {c : Int32} {sh : Nat} (hc : c = Int32.ofNat sh) (h : sh = 24 ∨ sh = 16 ∨ sh = 8 ∨ sh = 0) : ((x >>> c) &&& 255) = Int32.ofNat (z_b x sh) := by
  rw [← z_bE x (show sh < 32 by omega), hc]
  apply Int32.toBitVec.inj
  rcases h with h | h | h | h <;> subst h
  · exact z_bv x.toBitVec 24 (by decide)
  · exact z_bv x.toBitVec 16 (by decide)
  · exact z_bv x.toBitVec 8 (by decide)
  · exact z_bv x.toBitVec 0 (by decide)
theorem z_chr {b : Nat} (h : b < 256) : ((Int32.ofNat b).toUInt32 % 65536).toInt32 = Int32.ofNat b := by
  have w : ((List.range 256).all fun b => decide (((Int32.ofNat b).toUInt32 % 65536).toInt32 = Int32.ofNat b)) = true := by decide +kernel
  exact of_decide_eq_true (List.all_eq_true.mp w b (List.mem_range.mpr h))
theorem x_sC {α : Type} {u : g_St} {a i b : Nat} (h : i < 2 ^ 31) (h2 : i < g_ln u a) (hb : b < 256) (F : g_St → Option α) : g_sC u (some a) (Int32.ofNat i) (Int32.ofNat b) F = F (g_setAI u a i (Int32.ofNat b)) := by
  unfold g_sC
  rw [Int32.toNatClampNeg_ofNat_of_lt h]
  refine if_neg (fun w => w.elim (fun w => w.elim (fun q => by rw [Int32.lt_iff_toInt_lt, Int32.toInt_ofNat_of_lt h, Int32.toInt_zero] at q; omega) (fun q => absurd h2 (Nat.not_lt.mpr q))) (fun q => q ⟨?_, ?_⟩))
  · rw [l_0, x_le (by omega) (by omega)]; omega
  · rw [show (65535 : Int32) = Int32.ofNat 65535 from rfl, x_le (by omega) (by omega)]; omega
/-- the text, as the engine has it and as the reference has it -/
def z_XE (u : g_St) (len : Nat) (T : Nat → Nat) : Prop := g_I u 66 2 = Int32.ofNat len ∧ len ≤ 400 ∧ ∀ i, i < len → g_AI u 22 i = Int32.ofNat (T i)
def z_XM (u : g_St) (len : Nat) (T : Nat → Nat) : Prop := g_I u 321 1 = Int32.ofNat len ∧ len ≤ 400 ∧ ∀ i, i < len → g_AI u 1044 i = Int32.ofNat (T i)
def z_app : List Nat → Nat → (Nat → Nat) → Nat × (Nat → Nat)
  | [], n, T => (n, T)
  | b :: bs, n, T => if b = 0 then z_app bs n T else z_app bs (n + 1) (fun i => if i = n then b else T i)
abbrev z_ok (b : Nat) : Prop := b = 0 ∨ (32 ≤ b ∧ b ≤ 126)
def z_many (bs : List Nat) : Nat := (bs.filter (fun b => b != 0)).length
theorem z_app_1 : ∀ (bs : List Nat) (n : Nat) (T : Nat → Nat), (z_app bs n T).1 = n + z_many bs := by
  intro bs
  induction bs with
  | nil => intro n T; rfl
  | cons b bs ih =>
    intro n T
    unfold z_app z_many
    by_cases h : b = 0
    · rw [if_pos h, ih, List.filter_cons_of_neg (by simp [h])]; rfl
    · rw [if_neg h, ih, List.filter_cons_of_pos (by simp [h])]
      show n + 1 + z_many bs = n + (z_many bs + 1)
      omega
theorem z_app_append : ∀ (bs cs : List Nat) (n : Nat) (T : Nat → Nat), z_app (bs ++ cs) n T = z_app cs (z_app bs n T).1 (z_app bs n T).2 := by
  intro bs
  induction bs with
  | nil => intro cs n T; rfl
  | cons b bs ih =>
    intro cs n T
    have e : ∀ ds, z_app (b :: ds) n T = if b = 0 then z_app ds n T else z_app ds (n + 1) (fun i => if i = n then b else T i) := fun _ => rfl
    show z_app (b :: (bs ++ cs)) n T = _
    rw [e, e]
    by_cases h : b = 0
    · rw [if_pos h, if_pos h]; exact ih cs n T
    · rw [if_neg h, if_neg h]; exact ih cs _ _
theorem z_many_append (bs cs : List Nat) : z_many (bs ++ cs) = z_many bs + z_many cs := by
  unfold z_many
  rw [List.filter_append, List.length_append]
theorem z_app_low : ∀ (bs : List Nat) (n : Nat) (T : Nat → Nat) (i : Nat), i < n → (z_app bs n T).2 i = T i := by
  intro bs
  induction bs with
  | nil => intro n T i _; rfl
  | cons b bs ih =>
    intro n T i hi
    unfold z_app
    by_cases h : b = 0
    · rw [if_pos h]; exact ih n T i hi
    · rw [if_neg h, ih _ _ i (by omega)]
      exact if_neg (by omega)
theorem z_XE.low {u : g_St} {n m : Nat} {T T' : Nat → Nat} (h : z_XE u m T') (hn : n ≤ m) (hT : ∀ i, i < n → T' i = T i) : ∀ i, i < n → g_AI u 22 i = Int32.ofNat (T i) := fun i hi => by rw [h.2.2 i (by omega), hT i hi]
/-- only the text's length and letters change -/
def z_TF (u u' : g_St) : Prop := g_cnt u' = g_cnt u ∧ g_cn u' = g_cn u ∧ g_sn u' = g_sn u ∧ g_L u' = g_L u ∧ g_R u' = g_R u ∧ g_AL u' = g_AL u ∧ g_AR u' = g_AR u ∧ g_ln u' = g_ln u ∧ (∀ k a, ¬ (k = 66 ∧ a = 2) → g_I u' k a = g_I u k a) ∧ ∀ a, a ≠ 22 → g_AI u' a = g_AI u a
theorem z_TF.re {u : g_St} : z_TF u u := ⟨Eq.refl _, Eq.refl _, Eq.refl _, Eq.refl _, Eq.refl _, Eq.refl _, Eq.refl _, Eq.refl _, fun _ _ _ => Eq.refl _, fun _ _ => Eq.refl _⟩
theorem z_TF.trans {u v w : g_St} (h : z_TF u v) (g : z_TF v w) : z_TF u w := ⟨g.1.trans h.1, g.2.1.trans h.2.1, g.2.2.1.trans h.2.2.1, g.2.2.2.1.trans h.2.2.2.1, g.2.2.2.2.1.trans h.2.2.2.2.1, g.2.2.2.2.2.1.trans h.2.2.2.2.2.1, g.2.2.2.2.2.2.1.trans h.2.2.2.2.2.2.1, g.2.2.2.2.2.2.2.1.trans h.2.2.2.2.2.2.2.1, fun k a q => (g.2.2.2.2.2.2.2.2.1 k a q).trans (h.2.2.2.2.2.2.2.2.1 k a q), fun a q => (g.2.2.2.2.2.2.2.2.2 a q).trans (h.2.2.2.2.2.2.2.2.2 a q)⟩
theorem z_TF.put {u : g_St} (len b : Nat) (n : Int32) : z_TF u (g_setI (g_setAI u 22 len (Int32.ofNat b)) 66 2 n) := ⟨Eq.refl _, Eq.refl _, Eq.refl _, Eq.refl _, Eq.refl _, Eq.refl _, Eq.refl _, Eq.refl _, fun k a q => by rw [x_I_I, if_neg q]; rfl, fun a q => by
  funext i
  show g_AI (g_setAI u 22 len (Int32.ofNat b)) a i = _
  rw [x_AI_AI, if_neg (fun w => q w.1)]⟩
theorem z_XE.put {u : g_St} {len b : Nat} {T : Nat → Nat} (h : z_XE u len T) (hl : len < 400) : z_XE (g_setI (g_setAI u 22 len (Int32.ofNat b)) 66 2 (Int32.ofNat (len + 1))) (len + 1) (fun i => if i = len then b else T i) := by
  refine ⟨by rw [x_I_I, if_pos ⟨rfl, rfl⟩], by omega, fun i hi => ?_⟩
  show g_AI (g_setAI u 22 len (Int32.ofNat b)) 22 i = _
  rw [x_AI_AI]
  by_cases e : i = len
  · rw [if_pos ⟨rfl, e⟩]
    exact congrArg Int32.ofNat (if_pos e).symm
  · rw [if_neg (fun w => e w.2), h.2.2 i (by omega)]
    exact congrArg Int32.ofNat (if_neg e).symm
theorem z_take1 {n : Nat} {x c c' : Int32} {b : Nat} {u : g_St} {len : Nat} {T : Nat → Nat} (hc : ((x.toUInt32 >>> (c.toUInt32 &&& Int32.toUInt32 31)).toInt32 &&& 255) = Int32.ofNat b) (hb : b < 256) (hn : ¬ c < 0) (hc' : c + (-8) = c') (hX : z_XE u len T) (hR : g_R u 2 2 = some 22) (hl : g_ln u 22 = 400) :
    f_Re_take_3 (n + 1) (some 2) x c u = if b = 0 then f_Re_take_3 n (some 2) x c' u else if b < 32 ∨ 126 < b ∨ 400 ≤ len then some (0, u) else f_Re_take_3 n (some 2) x c' (g_setI (g_setAI u 22 len (Int32.ofNat b)) 66 2 (Int32.ofNat (len + 1))) := by
  rw [f_Re_take_3, if_neg hn]
  simp only [hc, hc', z_chr hb]
  have e0 : (Int32.ofNat b = 0) = (b = 0) := x_eq (b := 0) (by omega) (by decide)
  have e1 : (Int32.ofNat b < 32) = (b < 32) := x_lt (b := 32) (by omega) (by decide)
  have e2 : (126 < Int32.ofNat b) = (126 < b) := x_lt (a := 126) (by decide) (by omega)
  have e3 : (Int32.ofNat len < 400) = (len < 400) := x_lt (b := 400) (by have := hX.2.1; omega) (by decide)
  simp only [e0, e1, e2]
  by_cases h0 : b = 0
  · rw [if_pos h0, if_pos h0]
  rw [if_neg h0, if_neg h0]
  by_cases h1 : b < 32
  · rw [if_pos h1, if_pos (Or.inl h1)]; rfl
  rw [if_neg h1]
  by_cases h2 : 126 < b
  · rw [if_pos h2, if_pos (Or.inr (Or.inl h2))]; rfl
  rw [if_neg h2, x_gI, hX.1]
  simp only [e3]
  by_cases h3 : len < 400
  · rw [if_pos h3, if_neg (by omega), x_gR, hR, x_gI, hX.1, x_sC (by omega) (by rw [hl]; exact h3) hb, x_gI]
    show g_pI _ 66 (some 2) (g_I u 66 2 + 1) _ = _
    rw [hX.1, show Int32.ofNat len + 1 = Int32.ofNat (len + 1) from (Int32.ofNat_add _ _).symm]
    rfl
  · rw [if_neg h3, if_pos (by omega)]; rfl
/-- what reading some bytes does -/
def z_tk (bs : List Nat) (u : g_St) (len : Nat) (T : Nat → Nat) (o : Option (Int32 × g_St)) : Prop := ∃ u', z_TF u u' ∧ (∀ i, i < len → g_AI u' 22 i = Int32.ofNat (T i)) ∧
  (((∀ b ∈ bs, z_ok b) ∧ len + z_many bs ≤ 400 ∧ o = some (1, u') ∧ z_XE u' (z_app bs len T).1 (z_app bs len T).2) ∨ (¬ ((∀ b ∈ bs, z_ok b) ∧ len + z_many bs ≤ 400) ∧ o = some (0, u')))
theorem z_tk_cons {b : Nat} {bs : List Nat} {u : g_St} {len : Nat} {T : Nat → Nat} {o X Y : Option (Int32 × g_St)} (hb : b < 256) (hX : z_XE u len T) (ho : o = if b = 0 then X else if b < 32 ∨ 126 < b ∨ 400 ≤ len then some (0, u) else Y)
    (h0 : z_tk bs u len T X) (h1 : len < 400 → z_tk bs (g_setI (g_setAI u 22 len (Int32.ofNat b)) 66 2 (Int32.ofNat (len + 1))) (len + 1) (fun i => if i = len then b else T i) Y) : z_tk (b :: bs) u len T o := by
  by_cases e : b = 0
  · rw [if_pos e] at ho
    subst ho
    obtain ⟨u', f1, f2, f3⟩ := h0
    have em : z_many (b :: bs) = z_many bs := by unfold z_many; rw [List.filter_cons_of_neg (by simp [e])]
    have ea : z_app (b :: bs) len T = z_app bs len T := by rw [z_app, if_pos e]
    have ek : (∀ c ∈ b :: bs, z_ok c) ↔ ∀ c ∈ bs, z_ok c := ⟨fun h c hc => h c (List.mem_cons_of_mem _ hc), fun h c hc => (List.mem_cons.mp hc).elim (fun q => by rw [q]; exact Or.inl e) (h c)⟩
    refine ⟨u', f1, f2, ?_⟩
    rw [em, ea, ek]
    exact f3
  · rw [if_neg e] at ho
    have em : z_many (b :: bs) = z_many bs + 1 := by unfold z_many; rw [List.filter_cons_of_pos (by simp [e])]; rfl
    by_cases g : b < 32 ∨ 126 < b ∨ 400 ≤ len
    · rw [if_pos g] at ho
      refine ⟨u, z_TF.re, hX.2.2, Or.inr ⟨fun w => ?_, ho⟩⟩
      rcases w.1 b (List.mem_cons_self ..) with q | q
      · exact e q
      · rw [em] at w
        omega
    · rw [if_neg g] at ho
      subst ho
      obtain ⟨u', f1, f2, f3⟩ := h1 (by omega)
      have ea : z_app (b :: bs) len T = z_app bs (len + 1) (fun i => if i = len then b else T i) := by rw [z_app, if_neg e]
      have ek : (∀ c ∈ b :: bs, z_ok c) ↔ ∀ c ∈ bs, z_ok c := ⟨fun h c hc => h c (List.mem_cons_of_mem _ hc), fun h c hc => (List.mem_cons.mp hc).elim (fun q => by rw [q]; exact Or.inr (by omega)) (h c)⟩
      refine ⟨u', (z_TF.put len b _).trans f1, fun i hi => ?_, ?_⟩
      · rw [f2 i (by omega)]
        exact congrArg Int32.ofNat (if_neg (by omega))
      · rw [em, ea, ek, show len + (z_many bs + 1) = len + 1 + z_many bs by omega]
        exact f3
def z_bs4 (x : Int32) : List Nat := [z_b x 24, z_b x 16, z_b x 8, z_b x 0]
theorem z_TF.r {u v : g_St} (h : z_TF u v) (k a : Nat) : g_R v k a = g_R u k a := by rw [h.2.2.2.2.1]
theorem z_takeE (x : Int32) {u : g_St} {len : Nat} {T : Nat → Nat} (hX : z_XE u len T) (hR : g_R u 2 2 = some 22) (hl : g_ln u 22 = 400) : z_tk (z_bs4 x) u len T (f_Re_take (some 2) x u) := by
  have st : ∀ (n : Nat) (c c' : Int32) (sh : Nat) (bs : List Nat), sh < 32 → c = Int32.ofNat sh → c + (-8) = c' → (∀ (u : g_St) (len : Nat) (T : Nat → Nat), z_XE u len T → g_R u 2 2 = some 22 → g_ln u 22 = 400 → z_tk bs u len T (f_Re_take_3 n (some 2) x c' u)) → ∀ (u : g_St) (len : Nat) (T : Nat → Nat), z_XE u len T → g_R u 2 2 = some 22 → g_ln u 22 = 400 → z_tk (z_b x sh :: bs) u len T (f_Re_take_3 (n + 1) (some 2) x c u) := by
    intro n c c' sh bs hs e1 e2 ih u len T hX hR hl
    refine z_tk_cons (z_b_lt x sh) hX (z_take1 (by rw [e1]; exact z_bE x hs) (z_b_lt x sh) (by rw [e1, l_0, x_lt (by omega) (by decide)]; omega) e2 hX hR hl) (ih u len T hX hR hl) (fun hlt => ih _ _ _ (hX.put hlt) hR hl)
  have s0 : ∀ (u : g_St) (len : Nat) (T : Nat → Nat), z_XE u len T → g_R u 2 2 = some 22 → g_ln u 22 = 400 → z_tk [] u len T (f_Re_take_3 199996 (some 2) x (-8) u) := by
    intro u len T hX _ _
    refine ⟨u, z_TF.re, hX.2.2, Or.inl ⟨fun b hb => (List.not_mem_nil hb).elim, by have := hX.2.1; simpa [z_many] using this, ?_, hX⟩⟩
    rw [f_Re_take_3, if_pos (by decide)]
    rfl
  exact st 199999 24 16 24 _ (by decide) rfl (by decide) (st 199998 16 8 16 _ (by decide) rfl (by decide) (st 199997 8 0 8 _ (by decide) rfl (by decide) (st 199996 0 (-8) 0 _ (by decide) rfl (by decide) s0))) u len T hX hR hl
def z_okL (bs : List Nat) (len : Nat) : Prop := (∀ b ∈ bs, z_ok b) ∧ len + z_many bs ≤ 400
def z_tx (bs : List Nat) (u : g_St) (len : Nat) (T : Nat → Nat) (o : Option (Int32 × g_St)) : Prop := ∃ u', z_TF u u' ∧ ((z_okL bs len ∧ o = some (1, u') ∧ z_XE u' (z_app bs len T).1 (z_app bs len T).2) ∨ (¬ z_okL bs len ∧ o = some (0, u') ∧ z_XE u' len T))
theorem z_TF.len {u : g_St} (n : Int32) : z_TF u (g_setI u 66 2 n) := ⟨Eq.refl _, Eq.refl _, Eq.refl _, Eq.refl _, Eq.refl _, Eq.refl _, Eq.refl _, Eq.refl _, fun k a q => by rw [x_I_I, if_neg q], fun _ _ => Eq.refl _⟩
theorem z_tx_step {ds rest : List Nat} {u v : g_St} {len : Nat} {T : Nat → Nat} {x : Int32} {K : g_St → Option (Int32 × g_St)} (hF : z_TF u v) (hle : len ≤ 400) (hX : z_XE v (z_app ds len T).1 (z_app ds len T).2) (hd : ∀ b ∈ ds, z_ok b) (hR : g_R u 2 2 = some 22) (hR2 : g_R u 128 0 = some 2) (hl : g_ln u 22 = 400)
    (hK : ∀ v', z_TF u v' → z_XE v' (z_app (ds ++ z_bs4 x) len T).1 (z_app (ds ++ z_bs4 x) len T).2 → (∀ b ∈ ds ++ z_bs4 x, z_ok b) → z_tx (ds ++ z_bs4 x ++ rest) u len T (K v')) :
    z_tx (ds ++ z_bs4 x ++ rest) u len T (g_gR v 128 (some 0) fun p => g_c (g_nn p (f_Re_take p x v)) fun i s => if i = 0 then f_E_text_71 (some 0) (Int32.ofNat len) 0 s else K s) := by
  have hRv : g_R v 128 0 = some 2 := by rw [hF.r]; exact hR2
  obtain ⟨v', f1, f2, f3⟩ := z_takeE x hX (by rw [hF.r]; exact hR) (by rw [hF.2.2.2.2.2.2.2.1]; exact hl)
  rw [x_gR, hRv, x_nn]
  rcases f3 with ⟨g1, g2, g3, g4⟩ | ⟨g1, g2⟩
  · rw [g3, x_c, if_neg (by decide)]
    refine hK v' (hF.trans f1) (by rw [z_app_append]; exact g4) (fun b hb => (List.mem_append.mp hb).elim (hd b) (g1 b))
  · rw [g2, x_c, if_pos rfl]
    have hRv' : g_R v' 128 0 = some 2 := by rw [f1.r]; exact hRv
    have e1 := z_app_1 ds len T
    refine ⟨g_setI v' 66 2 (Int32.ofNat len), (hF.trans f1).trans (z_TF.len _), Or.inr ⟨fun w => g1 ⟨fun b hb => w.1 b (List.mem_append_left _ (List.mem_append_right _ hb)), ?_⟩, ?_, ?_⟩⟩
    · have w2 := w.2
      rw [z_many_append, z_many_append] at w2
      rw [e1]
      omega
    · unfold f_E_text_71
      rw [if_pos rfl, x_gR, hRv', x_pI]
      rfl
    · refine ⟨by rw [x_I_I, if_pos ⟨rfl, rfl⟩], hle, fun i hi => ?_⟩
      show g_AI v' 22 i = _
      rw [f2 i (by rw [e1]; omega), z_app_low ds len T i hi]
def z_bs20 (x1 x2 x3 x4 x5 : Int32) : List Nat := z_bs4 x1 ++ (z_bs4 x2 ++ (z_bs4 x3 ++ (z_bs4 x4 ++ z_bs4 x5)))
theorem z_textE (x1 x2 x3 x4 x5 : Int32) {u : g_St} {len : Nat} {T : Nat → Nat} (hX : z_XE u len T) (hR : g_R u 2 2 = some 22) (hR2 : g_R u 128 0 = some 2) (hl : g_ln u 22 = 400) : z_tx (z_bs20 x1 x2 x3 x4 x5) u len T (f_E_text (some 0) x1 x2 x3 x4 x5 u) := by
  unfold f_E_text
  rw [x_gR, hR2, x_gI, hX.1]
  have e : z_bs20 x1 x2 x3 x4 x5 = [] ++ z_bs4 x1 ++ (z_bs4 x2 ++ (z_bs4 x3 ++ (z_bs4 x4 ++ z_bs4 x5))) := rfl
  rw [e]
  refine z_tx_step z_TF.re hX.2.1 hX (fun b hb => (List.not_mem_nil hb).elim) hR hR2 hl (fun v1 F1 X1 O1 => ?_)
  rw [show [] ++ z_bs4 x1 ++ (z_bs4 x2 ++ (z_bs4 x3 ++ (z_bs4 x4 ++ z_bs4 x5))) = ([] ++ z_bs4 x1) ++ z_bs4 x2 ++ (z_bs4 x3 ++ (z_bs4 x4 ++ z_bs4 x5)) from rfl]
  refine z_tx_step F1 hX.2.1 X1 O1 hR hR2 hl (fun v2 F2 X2 O2 => ?_)
  rw [show ([] ++ z_bs4 x1) ++ z_bs4 x2 ++ (z_bs4 x3 ++ (z_bs4 x4 ++ z_bs4 x5)) = ([] ++ z_bs4 x1 ++ z_bs4 x2) ++ z_bs4 x3 ++ (z_bs4 x4 ++ z_bs4 x5) from rfl]
  refine z_tx_step F2 hX.2.1 X2 O2 hR hR2 hl (fun v3 F3 X3 O3 => ?_)
  rw [show ([] ++ z_bs4 x1 ++ z_bs4 x2) ++ z_bs4 x3 ++ (z_bs4 x4 ++ z_bs4 x5) = ([] ++ z_bs4 x1 ++ z_bs4 x2 ++ z_bs4 x3) ++ z_bs4 x4 ++ z_bs4 x5 from rfl]
  refine z_tx_step F3 hX.2.1 X3 O3 hR hR2 hl (fun v4 F4 X4 O4 => ?_)
  rw [show ([] ++ z_bs4 x1 ++ z_bs4 x2 ++ z_bs4 x3) ++ z_bs4 x4 ++ z_bs4 x5 = ([] ++ z_bs4 x1 ++ z_bs4 x2 ++ z_bs4 x3 ++ z_bs4 x4) ++ z_bs4 x5 ++ [] from rfl]
  refine z_tx_step F4 hX.2.1 X4 O4 hR hR2 hl (fun v5 F5 X5 O5 => ?_)
  rw [List.append_nil]
  refine ⟨v5, F5, Or.inl ⟨⟨O5, by rw [← z_app_1 _ _ T]; exact X5.2.1⟩, ?_, X5⟩⟩
  unfold f_E_text_71
  rw [if_neg (by decide)]
  rfl
/-! the reference's text -/
